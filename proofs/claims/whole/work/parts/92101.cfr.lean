/-! FRAMES: printed by frp.py -/
theorem y_DX10_addWatch {P : mwM → mwL → Prop} (hC : CPc2 P) {fu : Nat} {a1 : Int32} {a2 : Int32} {a3 : Int32} {a4 : Int32} {M : mwM} {L : mwL} (h : P M L) : kq3 P (DX10_addWatch fu a1 a2 a3 a4 M L) := by
  unfold DX10_addWatch
  exact (kqI3 (kqK3 (fun q1 => (kqM3_c2 hC h (by omega) (fun M4 h2 => (kqK3 (fun q3 => (kqM3_c2 hC h2 (by omega) (fun M7 h4 => (kqK3 (fun q5 => (kqM3_c2 hC h4 (by omega) (fun M10 h6 => (kqK3 (fun q7 => (kqM3_c2 hC h6 (by omega) (fun M13 h8 => (kqK3 (fun q9 => (kqM3_c2 hC h8 (by omega) (fun M16 h10 => (kqB23 (y_DX10_forget hC h10) (fun M17 L18 h11 => (kqM3_c2 hC h11 (by omega) (fun M19 h12 => (kqS3 h12))))))))))))))))))))))))) (kqS3 h))
theorem y_fX10_forgetAll_i2 {P : mwM → mwL → Prop} (hC : CPc2 P) {fu : Nat} {r2 : (Int32 × mwM × mwL) → Option (mwM × mwL)} {v1 : Int32} (hr2 : ∀ s, P s.2.1 s.2.2 → kq2 P (r2 s)) {M : mwM} {L : mwL} (h : P M L) : kq2 P (fX10_forgetAll_i2 fu r2 v1 M L) := by
  unfold fX10_forgetAll_i2
  exact (kqI2 (kqM2_c2 hC h (by omega) (fun M2 h1 => (kqS2 h1))) (kqB22 (y_DX10_forget hC h) (fun M3 L4 h2 => (kqL2 (fun x5 => (hr2 (x5, M3, L4) h2))))))
theorem y_fX10_forgetAll_h2 {P : mwM → mwL → Prop} (hC : CPc2 P) {fu : Nat} : ∀ n s, P s.2.1 s.2.2 → kq2 P (fX10_forgetAll_h2 fu n s) := by
  intro n
  induction n with
  | zero => intro s _; exact kqN2
  | succ n ih =>
    intro s h
    show kq2 P (fX10_forgetAll_i2 fu (fX10_forgetAll_h2 fu n) s.1 s.2.1 s.2.2)
    exact y_fX10_forgetAll_i2 hC ih h
theorem y_DX10_forgetAll {P : mwM → mwL → Prop} (hC : CPc2 P) {fu : Nat} {M : mwM} {L : mwL} (h : P M L) : kq2 P (DX10_forgetAll fu M L) := by
  unfold DX10_forgetAll
  exact (y_fX10_forgetAll_h2 hC _ (0, M, L) h)
theorem y_fX10_isWatching_b17 {P : mwM → mwL → Prop} (hC : CPc2 P) {fu : Nat} {a1 : Int32} {a2 : Int32} {s0 : Int32} {M : mwM} {L : mwL} (h : P M L) : kq3 P (fX10_isWatching_b17 fu a1 a2 s0 M L) := by
  unfold fX10_isWatching_b17
  exact (kq_mzz3 (kqS3 h))
theorem y_DX10_isWatching {P : mwM → mwL → Prop} (hC : CPc2 P) {fu : Nat} {a1 : Int32} {a2 : Int32} {M : mwM} {L : mwL} (h : P M L) : kq3 P (DX10_isWatching fu a1 a2 M L) := by
  unfold DX10_isWatching
  exact (kqK3 (fun q1 => (kqI3 (y_fX10_isWatching_b17 hC h) (y_fX10_isWatching_b17 hC h))))
theorem y_DX10_signalOf {P : mwM → mwL → Prop} (hC : CPc2 P) {fu : Nat} {a1 : Int32} {M : mwM} {L : mwL} (h : P M L) : kq3 P (DX10_signalOf fu a1 M L) := by
  unfold DX10_signalOf
  exact (kqK3 (fun q1 => (kqS3 h)))
theorem y_fX10_entryOf_i2 {P : mwM → mwL → Prop} (hC : CPc2 P) {fu : Nat} {a1 : Int32} {r2 : (Int32 × mwM × mwL) → Option (Int32 × mwM × mwL)} {v2 : Int32} (hr2 : ∀ s, P s.2.1 s.2.2 → kq3 P (r2 s)) {M : mwM} {L : mwL} (h : P M L) : kq3 P (fX10_entryOf_i2 fu a1 r2 v2 M L) := by
  unfold fX10_entryOf_i2
  exact (kqI3 (kqS3 h) (kqK3 (fun q1 => (kqI3 (kqS3 h) (kqL3 (fun x4 => (hr2 (x4, M, L) h)))))))
theorem y_fX10_entryOf_h2 {P : mwM → mwL → Prop} (hC : CPc2 P) {fu : Nat} {a1 : Int32} : ∀ n s, P s.2.1 s.2.2 → kq3 P (fX10_entryOf_h2 fu a1 n s) := by
  intro n
  induction n with
  | zero => intro s _; exact kqN3
  | succ n ih =>
    intro s h
    show kq3 P (fX10_entryOf_i2 fu a1 (fX10_entryOf_h2 fu a1 n) s.1 s.2.1 s.2.2)
    exact y_fX10_entryOf_i2 hC ih h
theorem y_DX10_entryOf {P : mwM → mwL → Prop} (hC : CPc2 P) {fu : Nat} {a1 : Int32} {M : mwM} {L : mwL} (h : P M L) : kq3 P (DX10_entryOf fu a1 M L) := by
  unfold DX10_entryOf
  exact (y_fX10_entryOf_h2 hC _ (0, M, L) h)
theorem y_DX10_weightOf {P : mwM → mwL → Prop} (hC : CPc2 P) {fu : Nat} {a1 : Int32} {M : mwM} {L : mwL} (h : P M L) : kq3 P (DX10_weightOf fu a1 M L) := by
  unfold DX10_weightOf
  exact (kqK3 (fun q1 => (kqK3 (fun q2 => (kqS3 h)))))
theorem y_fX10_findLesser_b55 {P : mwM → mwL → Prop} (hC : CPc2 P) {fu : Nat} {a1 : Int32} {r16 : (Int32 × Int32 × Int32 × mwM × mwL) → Option (Int32 × mwM × mwL)} {v2 : Int32} {v3 : Int32} {v4 : Int32} (hr16 : ∀ s, P s.2.2.2.1 s.2.2.2.2 → kq3 P (r16 s)) {M : mwM} {L : mwL} (h : P M L) : kq3 P (fX10_findLesser_b55 fu a1 r16 v2 v3 v4 M L) := by
  unfold fX10_findLesser_b55
  exact (kqL3 (fun x11 => (hr16 (v2, v3, x11, M, L) h)))
theorem y_fX10_findLesser_i16 {P : mwM → mwL → Prop} (hC : CPc2 P) {fu : Nat} {a1 : Int32} {r16 : (Int32 × Int32 × Int32 × mwM × mwL) → Option (Int32 × mwM × mwL)} {v2 : Int32} {v3 : Int32} {v4 : Int32} (hr16 : ∀ s, P s.2.2.2.1 s.2.2.2.2 → kq3 P (r16 s)) {M : mwM} {L : mwL} (h : P M L) : kq3 P (fX10_findLesser_i16 fu a1 r16 v2 v3 v4 M L) := by
  unfold fX10_findLesser_i16
  exact (kqI3 (kqS3 h) (kqK3 (fun q1 => (kqB33 (y_DX10_weightOf hC h) (fun r5 M3 L4 h2 => (kqI3 (y_fX10_findLesser_b55 hC hr16 h2) (kqK3 (fun q3 => (kqB33 (y_DX10_weightOf hC h2) (fun r10 M8 L9 h4 => (y_fX10_findLesser_b55 hC hr16 h4)))))))))))
theorem y_fX10_findLesser_h16 {P : mwM → mwL → Prop} (hC : CPc2 P) {fu : Nat} {a1 : Int32} : ∀ n s, P s.2.2.2.1 s.2.2.2.2 → kq3 P (fX10_findLesser_h16 fu a1 n s) := by
  intro n
  induction n with
  | zero => intro s _; exact kqN3
  | succ n ih =>
    intro s h
    show kq3 P (fX10_findLesser_i16 fu a1 (fX10_findLesser_h16 fu a1 n) s.1 s.2.1 s.2.2.1 s.2.2.2.1 s.2.2.2.2)
    exact y_fX10_findLesser_i16 hC ih h
theorem y_DX10_findLesser {P : mwM → mwL → Prop} (hC : CPc2 P) {fu : Nat} {a1 : Int32} {M : mwM} {L : mwL} (h : P M L) : kq3 P (DX10_findLesser fu a1 M L) := by
  unfold DX10_findLesser
  exact (kqK3 (fun q1 => (kqL3 (fun x14 => (y_fX10_findLesser_h16 hC _ (((-1)), x14, 0, M, L) h)))))
theorem y_fX10_removeEntry_i7 {P : mwM → mwL → Prop} (hC : CPc2 P) {fu : Nat} {a1 : Int32} {r7 : (Int32 × mwM × mwL) → Option (mwM × mwL)} {v2 : Int32} (hr7 : ∀ s, P s.2.1 s.2.2 → kq2 P (r7 s)) {M : mwM} {L : mwL} (h : P M L) : kq2 P (fX10_removeEntry_i7 fu a1 r7 v2 M L) := by
  unfold fX10_removeEntry_i7
  exact (kqI2 (kqM2_c2 hC h (by omega) (fun M2 h1 => (kqS2 h1))) (kqK2 (fun q2 => (kqK2 (fun q3 => (kqM2_c2 hC h (by omega) (fun M5 h4 => (kqL2 (fun x6 => (hr7 (x6, M5, L) h4))))))))))
theorem y_fX10_removeEntry_h7 {P : mwM → mwL → Prop} (hC : CPc2 P) {fu : Nat} {a1 : Int32} : ∀ n s, P s.2.1 s.2.2 → kq2 P (fX10_removeEntry_h7 fu a1 n s) := by
  intro n
  induction n with
  | zero => intro s _; exact kqN2
  | succ n ih =>
    intro s h
    show kq2 P (fX10_removeEntry_i7 fu a1 (fX10_removeEntry_h7 fu a1 n) s.1 s.2.1 s.2.2)
    exact y_fX10_removeEntry_i7 hC ih h
theorem y_DX10_removeEntry {P : mwM → mwL → Prop} (hC : CPc2 P) {fu : Nat} {a1 : Int32} {M : mwM} {L : mwL} (h : P M L) : kq2 P (DX10_removeEntry fu a1 M L) := by
  unfold DX10_removeEntry
  exact (kqI2 (y_fX10_removeEntry_h7 hC _ (a1, M, L) h) (kqS2 h))
theorem y_fX10_store_b69 {P : mwM → mwL → Prop} (hC : CPc2 P) {fu : Nat} {a1 : Int32} {M : mwM} {L : mwL} (h : P M L) : kq2 P (fX10_store_b69 fu a1 M L) := by
  unfold fX10_store_b69
  exact (kqK2 (fun q1 => (kqM2_c2 hC h (by omega) (fun M10 h2 => (kqS2 h2)))))
theorem y_fX10_store_b26 {P : mwM → mwL → Prop} (hC : CPc2 P) {fu : Nat} {a1 : Int32} {M : mwM} {L : mwL} (h : P M L) : kq2 P (fX10_store_b26 fu a1 M L) := by
  unfold fX10_store_b26
  exact (kqI2 (kqK2 (fun q1 => (kqM2_c2 hC h (by omega) (fun M3 h2 => (kqM2_c2 hC h2 (by omega) (fun M4 h3 => (kqK2 (fun q4 => (kqM2_c2 hC h3 (by omega) (fun M7 h5 => (y_fX10_store_b69 hC h5))))))))))) (kqS2 h))
theorem y_DX10_store {P : mwM → mwL → Prop} (hC : CPc2 P) {fu : Nat} {a1 : Int32} {M : mwM} {L : mwL} (h : P M L) : kq2 P (DX10_store fu a1 M L) := by
  unfold DX10_store
  exact (kqB32 (y_DX10_entryOf hC h) (fun r13 M11 L12 h1 => (kqI2 (y_fX10_store_b69 hC h1) (kqI2 (y_fX10_store_b26 hC h1) (kqB32 (y_DX10_findLesser hC h1) (fun r18 M16 L17 h2 => (kqB22 (y_DX10_removeEntry hC h2) (fun M19 L20 h3 => (y_fX10_store_b26 hC h3)))))))))
theorem y_fX10_testFailed_b142 {P : mwM → mwL → Prop} (hC : CPc2 P) {fu : Nat} {a1 : Int32} {M : mwM} {L : mwL} (h : P M L) : kq2 P (fX10_testFailed_b142 fu a1 M L) := by
  unfold fX10_testFailed_b142
  exact (kqS2 h)
theorem y_fX10_testFailed_b95 {P : mwM → mwL → Prop} (hC : CPc2 P) {fu : Nat} {a1 : Int32} {v2 : Int32} {v3 : Int32} {M : mwM} {L : mwL} (h : P M L) : kq2 P (fX10_testFailed_b95 fu a1 v2 v3 M L) := by
  unfold fX10_testFailed_b95
  exact (kqK2 (fun q1 => (kqM2_c2 hC h (by omega) (fun M17 h2 => (kqK2 (fun q3 => (kqM2_c2 hC h2 (by omega) (fun M20 h4 => (kqK2 (fun q5 => (kqM2_c2 hC h4 (by omega) (fun M23 h6 => (kqI2 (kqB22 (y_DX10_store hC h6) (fun M25 L26 h7 => (y_fX10_testFailed_b142 hC h7))) (y_fX10_testFailed_b142 hC h6))))))))))))))
theorem y_fX10_testFailed_b93 {P : mwM → mwL → Prop} (hC : CPc2 P) {fu : Nat} {a1 : Int32} {v3 : Int32} {s0 : Int32} {s1 : Int32} {M : mwM} {L : mwL} (h : P M L) : kq2 P (fX10_testFailed_b93 fu a1 v3 s0 s1 M L) := by
  unfold fX10_testFailed_b93
  exact (kqL2 (fun x14 => (y_fX10_testFailed_b95 hC h)))
theorem y_fX10_testFailed_b53 {P : mwM → mwL → Prop} (hC : CPc2 P) {fu : Nat} {a1 : Int32} {v2 : Int32} {v3 : Int32} {M : mwM} {L : mwL} (h : P M L) : kq2 P (fX10_testFailed_b53 fu a1 v2 v3 M L) := by
  unfold fX10_testFailed_b53
  exact (kqL2 (fun x7 => (kqK2 (fun q1 => (kqI2 (y_fX10_testFailed_b95 hC h) (kqK2 (fun q2 => (kqI2 (y_fX10_testFailed_b93 hC h) (y_fX10_testFailed_b93 hC h)))))))))
theorem y_fX10_testFailed_b20 {P : mwM → mwL → Prop} (hC : CPc2 P) {fu : Nat} {a1 : Int32} {v2 : Int32} {s0 : Int32} {M : mwM} {L : mwL} (h : P M L) : kq2 P (fX10_testFailed_b20 fu a1 v2 s0 M L) := by
  unfold fX10_testFailed_b20
  exact (kqI2 (kqK2 (fun q1 => (kqK2 (fun q2 => (kqM2_c2 hC h (by omega) (fun M6 h3 => (y_fX10_testFailed_b53 hC h3))))))) (y_fX10_testFailed_b53 hC h))
theorem y_DX10_testFailed {P : mwM → mwL → Prop} (hC : CPc2 P) {fu : Nat} {a1 : Int32} {M : mwM} {L : mwL} (h : P M L) : kq2 P (DX10_testFailed fu a1 M L) := by
  unfold DX10_testFailed
  exact (kqK2 (fun q1 => (kqL2 (fun x29 => (kqI2 (y_fX10_testFailed_b20 hC h) (y_fX10_testFailed_b20 hC h))))))
theorem y_fX10_noteFailed_b68 {P : mwM → mwL → Prop} (hC : CPc2 P) {fu : Nat} {a1 : Int32} {a2 : Int32} {M : mwM} {L : mwL} (h : P M L) : kq2 P (fX10_noteFailed_b68 fu a1 a2 M L) := by
  unfold fX10_noteFailed_b68
  exact (kqS2 h)
theorem y_DX10_noteFailed {P : mwM → mwL → Prop} (hC : CPc2 P) {fu : Nat} {a1 : Int32} {a2 : Int32} {M : mwM} {L : mwL} (h : P M L) : kq2 P (DX10_noteFailed fu a1 a2 M L) := by
  unfold DX10_noteFailed
  exact (kqK2 (fun q1 => (kqM2_c2 hC h (by omega) (fun M3 h2 => (kqM2_c2 hC h2 (by omega) (fun M4 h3 => (kqK2 (fun q4 => (kqK2 (fun q5 => (kqM2_c2 hC h3 (by omega) (fun M9 h6 => (kqK2 (fun q7 => (kqI2 (kqB22 (y_DX10_testFailed hC h6) (fun M13 L14 h8 => (y_fX10_noteFailed_b68 hC h8))) (y_fX10_noteFailed_b68 hC h6))))))))))))))))
theorem y_fX10_lookForSilence_b37 {P : mwM → mwL → Prop} (hC : CPc2 P) {fu : Nat} {a1 : Int32} {r2 : (Int32 × mwM × mwL) → Option (mwM × mwL)} {v2 : Int32} (hr2 : ∀ s, P s.2.1 s.2.2 → kq2 P (r2 s)) {M : mwM} {L : mwL} (h : P M L) : kq2 P (fX10_lookForSilence_b37 fu a1 r2 v2 M L) := by
  unfold fX10_lookForSilence_b37
  exact (kqL2 (fun x9 => (hr2 (x9, M, L) h)))
theorem y_fX10_lookForSilence_i2 {P : mwM → mwL → Prop} (hC : CPc2 P) {fu : Nat} {a1 : Int32} {r2 : (Int32 × mwM × mwL) → Option (mwM × mwL)} {v2 : Int32} (hr2 : ∀ s, P s.2.1 s.2.2 → kq2 P (r2 s)) {M : mwM} {L : mwL} (h : P M L) : kq2 P (fX10_lookForSilence_i2 fu a1 r2 v2 M L) := by
  unfold fX10_lookForSilence_i2
  exact (kqI2 (kqS2 h) (kqK2 (fun q1 => (kqK2 (fun q2 => (kqI2 (y_fX10_lookForSilence_b37 hC hr2 h) (kqB22 (y_DX10_noteFailed hC h) (fun M7 L8 h3 => (y_fX10_lookForSilence_b37 hC hr2 h3)))))))))
theorem y_fX10_lookForSilence_h2 {P : mwM → mwL → Prop} (hC : CPc2 P) {fu : Nat} {a1 : Int32} : ∀ n s, P s.2.1 s.2.2 → kq2 P (fX10_lookForSilence_h2 fu a1 n s) := by
  intro n
  induction n with
  | zero => intro s _; exact kqN2
  | succ n ih =>
    intro s h
    show kq2 P (fX10_lookForSilence_i2 fu a1 (fX10_lookForSilence_h2 fu a1 n) s.1 s.2.1 s.2.2)
    exact y_fX10_lookForSilence_i2 hC ih h
theorem y_DX10_lookForSilence {P : mwM → mwL → Prop} (hC : CPc2 P) {fu : Nat} {a1 : Int32} {M : mwM} {L : mwL} (h : P M L) : kq2 P (DX10_lookForSilence fu a1 M L) := by
  unfold DX10_lookForSilence
  exact (y_fX10_lookForSilence_h2 hC _ (0, M, L) h)
theorem y_fX10_notePassed_b76 {P : mwM → mwL → Prop} (hC : CPc2 P) {fu : Nat} {a1 : Int32} {a2 : Int32} {M : mwM} {L : mwL} (h : P M L) : kq2 P (fX10_notePassed_b76 fu a1 a2 M L) := by
  unfold fX10_notePassed_b76
  exact (kqS2 h)
theorem y_DX10_notePassed {P : mwM → mwL → Prop} (hC : CPc2 P) {fu : Nat} {a1 : Int32} {a2 : Int32} {M : mwM} {L : mwL} (h : P M L) : kq2 P (DX10_notePassed fu a1 a2 M L) := by
  unfold DX10_notePassed
  exact (kqK2 (fun q1 => (kqM2_c2 hC h (by omega) (fun M3 h2 => (kqM2_c2 hC h2 (by omega) (fun M4 h3 => (kqK2 (fun q4 => (kqK2 (fun q5 => (kqM2_c2 hC h3 (by omega) (fun M9 h6 => (kqK2 (fun q7 => (kqI2 (kqK2 (fun q8 => (kqK2 (fun q9 => (kqM2_c2 hC h6 (by omega) (fun M16 h10 => (y_fX10_notePassed_b76 hC h10))))))) (y_fX10_notePassed_b76 hC h6))))))))))))))))
theorem y_fX10_endGoodCycle_b110 {P : mwM → mwL → Prop} (hC : CPc2 P) {fu : Nat} {a1 : Int32} {a2 : Int32} {M : mwM} {L : mwL} (h : P M L) : kq2 P (fX10_endGoodCycle_b110 fu a1 a2 M L) := by
  unfold fX10_endGoodCycle_b110
  exact (kqS2 h)
theorem y_fX10_endGoodCycle_b190 {P : mwM → mwL → Prop} (hC : CPc2 P) {fu : Nat} {a1 : Int32} {a2 : Int32} {M : mwM} {L : mwL} (h : P M L) : kq2 P (fX10_endGoodCycle_b190 fu a1 a2 M L) := by
  unfold fX10_endGoodCycle_b190
  exact (kqS2 h)
theorem y_fX10_endGoodCycle_b90 {P : mwM → mwL → Prop} (hC : CPc2 P) {fu : Nat} {a1 : Int32} {a2 : Int32} {M : mwM} {L : mwL} (h : P M L) : kq2 P (fX10_endGoodCycle_b90 fu a1 a2 M L) := by
  unfold fX10_endGoodCycle_b90
  exact (kqI2 (y_fX10_endGoodCycle_b110 hC h) (kqK2 (fun q1 => (kqI2 (kqK2 (fun q2 => (kqK2 (fun q3 => (kqM2_c2 hC h (by omega) (fun M20 h4 => (kqK2 (fun q5 => (kqI2 (y_fX10_endGoodCycle_b190 hC h4) (kqK2 (fun q6 => (kqK2 (fun q7 => (kqM2_c2 hC h4 (by omega) (fun M27 h8 => (kqK2 (fun q9 => (kqM2_c2 hC h8 (by omega) (fun M30 h10 => (kqK2 (fun q11 => (kqM2_c2 hC h10 (by omega) (fun M33 h12 => (kqK2 (fun q13 => (kqM2_c2 hC h12 (by omega) (fun M36 h14 => (kqB32 (y_DX10_entryOf hC h14) (fun r39 M37 L38 h15 => (kqB22 (y_DX10_removeEntry hC h15) (fun M40 L41 h16 => (y_fX10_endGoodCycle_b190 hC h16)))))))))))))))))))))))))))))))) (y_fX10_endGoodCycle_b110 hC h)))))
theorem y_fX10_endGoodCycle_b37 {P : mwM → mwL → Prop} (hC : CPc2 P) {fu : Nat} {a1 : Int32} {a2 : Int32} {M : mwM} {L : mwL} (h : P M L) : kq2 P (fX10_endGoodCycle_b37 fu a1 a2 M L) := by
  unfold fX10_endGoodCycle_b37
  exact (kqK2 (fun q1 => (kqK2 (fun q2 => (kqM2_c2 hC h (by omega) (fun M5 h3 => (kqK2 (fun q4 => (kqI2 (y_fX10_endGoodCycle_b90 hC h3) (kqK2 (fun q5 => (kqK2 (fun q6 => (kqM2_c2 hC h3 (by omega) (fun M12 h7 => (y_fX10_endGoodCycle_b90 hC h7))))))))))))))))
theorem y_DX10_endGoodCycle {P : mwM → mwL → Prop} (hC : CPc2 P) {fu : Nat} {a1 : Int32} {a2 : Int32} {M : mwM} {L : mwL} (h : P M L) : kq2 P (DX10_endGoodCycle fu a1 a2 M L) := by
  unfold DX10_endGoodCycle
  exact (kqK2 (fun q1 => (kqK2 (fun q2 => (kqM2_c2 hC h (by omega) (fun M45 h3 => (kqK2 (fun q4 => (kqI2 (kqK2 (fun q5 => (kqM2_c2 hC h3 (by omega) (fun M51 h6 => (y_fX10_endGoodCycle_b37 hC h6))))) (y_fX10_endGoodCycle_b37 hC h3))))))))))
theorem y_fX10_endCycle_i38 {P : mwM → mwL → Prop} (hC : CPc2 P) {fu : Nat} {a1 : Int32} {r38 : (Int32 × mwM × mwL) → Option (Int32 × mwM × mwL)} {v2 : Int32} (hr38 : ∀ s, P s.2.1 s.2.2 → kq3 P (r38 s)) {M : mwM} {L : mwL} (h : P M L) : kq3 P (fX10_endCycle_i38 fu a1 r38 v2 M L) := by
  unfold fX10_endCycle_i38
  exact (kqI3 (kqM3_c2 hC h (by omega) (fun M9 h1 => (kqS3 h1))) (kqK3 (fun q2 => (kqK3 (fun q3 => (kqM3_c2 hC h (by omega) (fun M14 h4 => (kqL3 (fun x15 => (hr38 (x15, M14, L) h4))))))))))
theorem y_fX10_endCycle_h38 {P : mwM → mwL → Prop} (hC : CPc2 P) {fu : Nat} {a1 : Int32} : ∀ n s, P s.2.1 s.2.2 → kq3 P (fX10_endCycle_h38 fu a1 n s) := by
  intro n
  induction n with
  | zero => intro s _; exact kqN3
  | succ n ih =>
    intro s h
    show kq3 P (fX10_endCycle_i38 fu a1 (fX10_endCycle_h38 fu a1 n) s.1 s.2.1 s.2.2)
    exact y_fX10_endCycle_i38 hC ih h
theorem y_fX10_endCycle_b30 {P : mwM → mwL → Prop} (hC : CPc2 P) {fu : Nat} {a1 : Int32} {r2 : (Int32 × mwM × mwL) → Option (Int32 × mwM × mwL)} {v2 : Int32} (hr2 : ∀ s, P s.2.1 s.2.2 → kq3 P (r2 s)) {M : mwM} {L : mwL} (h : P M L) : kq3 P (fX10_endCycle_b30 fu a1 r2 v2 M L) := by
  unfold fX10_endCycle_b30
  exact (kqL3 (fun x7 => (hr2 (x7, M, L) h)))
theorem y_fX10_endCycle_i2 {P : mwM → mwL → Prop} (hC : CPc2 P) {fu : Nat} {a1 : Int32} {r2 : (Int32 × mwM × mwL) → Option (Int32 × mwM × mwL)} {v2 : Int32} (hr2 : ∀ s, P s.2.1 s.2.2 → kq3 P (r2 s)) {M : mwM} {L : mwL} (h : P M L) : kq3 P (fX10_endCycle_i2 fu a1 r2 v2 M L) := by
  unfold fX10_endCycle_i2
  exact (kqI3 (y_fX10_endCycle_h38 hC _ (0, M, L) h) (kqK3 (fun q1 => (kqI3 (kqB23 (y_DX10_endGoodCycle hC h) (fun M5 L6 h2 => (y_fX10_endCycle_b30 hC hr2 h2))) (y_fX10_endCycle_b30 hC hr2 h)))))
theorem y_fX10_endCycle_h2 {P : mwM → mwL → Prop} (hC : CPc2 P) {fu : Nat} {a1 : Int32} : ∀ n s, P s.2.1 s.2.2 → kq3 P (fX10_endCycle_h2 fu a1 n s) := by
  intro n
  induction n with
  | zero => intro s _; exact kqN3
  | succ n ih =>
    intro s h
    show kq3 P (fX10_endCycle_i2 fu a1 (fX10_endCycle_h2 fu a1 n) s.1 s.2.1 s.2.2)
    exact y_fX10_endCycle_i2 hC ih h
theorem y_DX10_endCycle {P : mwM → mwL → Prop} (hC : CPc2 P) {fu : Nat} {a1 : Int32} {M : mwM} {L : mwL} (h : P M L) : kq3 P (DX10_endCycle fu a1 M L) := by
  unfold DX10_endCycle
  exact (y_fX10_endCycle_h2 hC _ (0, M, L) h)
theorem y_fX10_tell_b72 {P : mwM → mwL → Prop} (hC : CPc2 P) {fu : Nat} {a1 : Int32} {a2 : Int32} {s0 : Int32} {M : mwM} {L : mwL} (h : P M L) : kq3 P (fX10_tell_b72 fu a1 a2 s0 M L) := by
  unfold fX10_tell_b72
  exact (kqS3 h)
theorem y_fX10_tell_b94 {P : mwM → mwL → Prop} (hC : CPc2 P) {fu : Nat} {a1 : Int32} {a2 : Int32} {s0 : Int32} {M : mwM} {L : mwL} (h : P M L) : kq3 P (fX10_tell_b94 fu a1 a2 s0 M L) := by
  unfold fX10_tell_b94
  exact (kqS3 h)
theorem y_fX10_tell_b115 {P : mwM → mwL → Prop} (hC : CPc2 P) {fu : Nat} {a1 : Int32} {a2 : Int32} {s0 : Int32} {M : mwM} {L : mwL} (h : P M L) : kq3 P (fX10_tell_b115 fu a1 a2 s0 M L) := by
  unfold fX10_tell_b115
  exact (kqS3 h)
theorem y_DX10_tell {P : mwM → mwL → Prop} (hC : CPc2 P) {fu : Nat} {a1 : Int32} {a2 : Int32} {M : mwM} {L : mwL} (h : P M L) : kq3 P (DX10_tell fu a1 a2 M L) := by
  unfold DX10_tell
  exact (kqL3 (fun x1 => (kqI3 (kqK3 (fun q1 => (kqS3 h))) (kqI3 (kqK3 (fun q2 => (kqS3 h))) (kqI3 (kqB33 (y_DX10_entryOf hC h) (fun r11 M9 L10 h3 => (kqI3 (kqK3 (fun q4 => (y_fX10_tell_b72 hC h3))) (y_fX10_tell_b72 hC h3)))) (kqI3 (kqB33 (y_DX10_entryOf hC h) (fun r18 M16 L17 h5 => (kqI3 (kqK3 (fun q6 => (y_fX10_tell_b94 hC h5))) (y_fX10_tell_b94 hC h5)))) (kqI3 (y_fX10_tell_b115 hC h) (kqK3 (fun q7 => (y_fX10_tell_b115 hC h))))))))))
theorem y_DX10_statusOf {P : mwM → mwL → Prop} (hC : CPc2 P) {fu : Nat} {a1 : Int32} {M : mwM} {L : mwL} (h : P M L) : kq3 P (DX10_statusOf fu a1 M L) := by
  unfold DX10_statusOf
  exact (kqK3 (fun q1 => (kqS3 h)))
theorem y_fX0_begin_i79 {P : mwM → mwL → Prop} (hC : CPc2 P) {fu : Nat} {a1 : Int32} {r79 : (Int32 × mwM × mwL) → Option (mwM × mwL)} {v2 : Int32} (hr79 : ∀ s, P s.2.1 s.2.2 → kq2 P (r79 s)) {M : mwM} {L : mwL} (h : P M L) : kq2 P (fX0_begin_i79 fu a1 r79 v2 M L) := by
  unfold fX0_begin_i79
  exact (kqI2 (kqS2 h) (kqK2 (fun q1 => (kqM2_c2 hC h (by omega) (fun M14 h2 => (kqL2 (fun x15 => (hr79 (x15, M14, L) h2))))))))
theorem y_fX0_begin_h79 {P : mwM → mwL → Prop} (hC : CPc2 P) {fu : Nat} {a1 : Int32} : ∀ n s, P s.2.1 s.2.2 → kq2 P (fX0_begin_h79 fu a1 n s) := by
  intro n
  induction n with
  | zero => intro s _; exact kqN2
  | succ n ih =>
    intro s h
    show kq2 P (fX0_begin_i79 fu a1 (fX0_begin_h79 fu a1 n) s.1 s.2.1 s.2.2)
    exact y_fX0_begin_i79 hC ih h
theorem y_fX0_begin_i37 {P : mwM → mwL → Prop} (hC : CPc2 P) {fu : Nat} {a1 : Int32} {r37 : (Int32 × mwM × mwL) → Option (mwM × mwL)} {v2 : Int32} (hr37 : ∀ s, P s.2.1 s.2.2 → kq2 P (r37 s)) {M : mwM} {L : mwL} (h : P M L) : kq2 P (fX0_begin_i37 fu a1 r37 v2 M L) := by
  unfold fX0_begin_i37
  exact (kqI2 (y_fX0_begin_h79 hC _ (0, M, L) h) (kqK2 (fun q1 => (kqM2_c2 hC h (by omega) (fun M4 h2 => (kqK2 (fun q3 => (kqM2_c2 hC h2 (by omega) (fun M7 h4 => (kqK2 (fun q5 => (kqM2_c2 hC h4 (by omega) (fun M10 h6 => (kqL2 (fun x11 => (hr37 (x11, M10, L) h6))))))))))))))))
theorem y_fX0_begin_h37 {P : mwM → mwL → Prop} (hC : CPc2 P) {fu : Nat} {a1 : Int32} : ∀ n s, P s.2.1 s.2.2 → kq2 P (fX0_begin_h37 fu a1 n s) := by
  intro n
  induction n with
  | zero => intro s _; exact kqN2
  | succ n ih =>
    intro s h
    show kq2 P (fX0_begin_i37 fu a1 (fX0_begin_h37 fu a1 n) s.1 s.2.1 s.2.2)
    exact y_fX0_begin_i37 hC ih h
theorem y_DX0_begin {P : mwM → mwL → Prop} (hC : CPc2 P) {fu : Nat} {a1 : Int32} {M : mwM} {L : mwL} (h : P M L) : kq2 P (DX0_begin fu a1 M L) := by
  unfold DX0_begin
  exact (kqM2_c2 hC h (by omega) (fun M16 h1 => (kqM2_c2 hC h1 (by omega) (fun M17 h2 => (kqM2_c2 hC h2 (by omega) (fun M18 h3 => (kqM2_c2 hC h3 (by omega) (fun M19 h4 => (kqM2_c2 hC h4 (by omega) (fun M20 h5 => (kqM2_c2 hC h5 (by omega) (fun M21 h6 => (y_fX0_begin_h37 hC _ (0, M21, L) h6)))))))))))))
theorem y_fX0_tellError_b36 {P : mwM → mwL → Prop} (hC : CPc2 P) {fu : Nat} {a1 : Int32} {a2 : Int32} {s0 : Int32} {M : mwM} {L : mwL} (h : P M L) : kq3 P (fX0_tellError_b36 fu a1 a2 s0 M L) := by
  unfold fX0_tellError_b36
  exact (kqS3 h)
theorem y_DX0_tellError {P : mwM → mwL → Prop} (hC : CPc2 P) {fu : Nat} {a1 : Int32} {a2 : Int32} {M : mwM} {L : mwL} (h : P M L) : kq3 P (DX0_tellError fu a1 a2 M L) := by
  unfold DX0_tellError
  exact (kqK3 (fun q1 => (kqL3 (fun x2 => (kqI3 (y_fX0_tellError_b36 hC h) (kqI3 (y_fX0_tellError_b36 hC h) (y_fX0_tellError_b36 hC h)))))))
theorem y_fX0_send_i51 {P : mwM → mwL → Prop} (hC : CPc2 P) {fu : Nat} {a1 : Int32} {a2 : Int32} {a3 : Nat} {n3 : Nat} {r51 : (Int32 × mwM × mwL) → Option (Int32 × mwM × mwL)} {v4 : Int32} (hr51 : ∀ s, P s.2.1 s.2.2 → kq3 P (r51 s)) {M : mwM} {L : mwL} (h : P M L) : kq3 P (fX0_send_i51 fu a1 a2 a3 n3 r51 v4 M L) := by
  unfold fX0_send_i51
  exact (kqI3 (kqM3_c2 hC h (by omega) (fun M2 h1 => (kqK3 (fun q2 => (kqK3 (fun q3 => (kqM3_c2 hC h1 (by omega) (fun M6 h4 => (kqM3_c2 hC h4 (by omega) (fun M7 h5 => (kqS3 h5))))))))))) (kqK3 (fun q6 => (kqK3 (fun q7 => (kqM3_c2 hC h (by omega) (fun M10 h8 => (kqL3 (fun x11 => (hr51 (x11, M10, L) h8))))))))))
theorem y_fX0_send_h51 {P : mwM → mwL → Prop} (hC : CPc2 P) {fu : Nat} {a1 : Int32} {a2 : Int32} {a3 : Nat} {n3 : Nat} : ∀ n s, P s.2.1 s.2.2 → kq3 P (fX0_send_h51 fu a1 a2 a3 n3 n s) := by
  intro n
  induction n with
  | zero => intro s _; exact kqN3
  | succ n ih =>
    intro s h
    show kq3 P (fX0_send_i51 fu a1 a2 a3 n3 (fX0_send_h51 fu a1 a2 a3 n3 n) s.1 s.2.1 s.2.2)
    exact y_fX0_send_i51 hC ih h
theorem y_DX0_send {P : mwM → mwL → Prop} (hC : CPc2 P) {fu : Nat} {a1 : Int32} {a2 : Int32} {a3 : Nat} {n3 : Nat} {M : mwM} {L : mwL} (h : P M L) : kq3 P (DX0_send fu a1 a2 a3 n3 M L) := by
  unfold DX0_send
  exact (kqI3 (kqK3 (fun q1 => (kqM3_c2 hC h (by omega) (fun M15 h2 => (kqK3 (fun q3 => (kqM3_c2 hC h2 (by omega) (fun M18 h4 => (kqK3 (fun q5 => (kqM3_c2 hC h4 (by omega) (fun M21 h6 => (y_fX0_send_h51 hC _ (0, M21, L) h6))))))))))))) (kqS3 h))
theorem y_fX0_isBefore_b43 {P : mwM → mwL → Prop} (hC : CPc2 P) {fu : Nat} {a1 : Int32} {a2 : Int32} {s0 : Int32} {M : mwM} {L : mwL} (h : P M L) : kq3 P (fX0_isBefore_b43 fu a1 a2 s0 M L) := by
  unfold fX0_isBefore_b43
  exact (kq_mzz3 (kqS3 h))
theorem y_fX0_isBefore_b107 {P : mwM → mwL → Prop} (hC : CPc2 P) {fu : Nat} {a1 : Int32} {a2 : Int32} {s0 : Int32} {M : mwM} {L : mwL} (h : P M L) : kq3 P (fX0_isBefore_b107 fu a1 a2 s0 M L) := by
  unfold fX0_isBefore_b107
  exact (kq_mzz3 (kqS3 h))
theorem y_fX0_isBefore_i46 {P : mwM → mwL → Prop} (hC : CPc2 P) {fu : Nat} {a1 : Int32} {a2 : Int32} {r46 : (Int32 × mwM × mwL) → Option (Int32 × mwM × mwL)} {v3 : Int32} (hr46 : ∀ s, P s.2.1 s.2.2 → kq3 P (r46 s)) {M : mwM} {L : mwL} (h : P M L) : kq3 P (fX0_isBefore_i46 fu a1 a2 r46 v3 M L) := by
  unfold fX0_isBefore_i46
  exact (kqI3 (kqS3 h) (kqK3 (fun q1 => (kqK3 (fun q2 => (kqI3 (kqL3 (fun x6 => (hr46 (x6, M, L) h))) (kqK3 (fun q3 => (kqK3 (fun q4 => (kqI3 (y_fX0_isBefore_b107 hC h) (y_fX0_isBefore_b107 hC h))))))))))))
theorem y_fX0_isBefore_h46 {P : mwM → mwL → Prop} (hC : CPc2 P) {fu : Nat} {a1 : Int32} {a2 : Int32} : ∀ n s, P s.2.1 s.2.2 → kq3 P (fX0_isBefore_h46 fu a1 a2 n s) := by
  intro n
  induction n with
  | zero => intro s _; exact kqN3
  | succ n ih =>
    intro s h
    show kq3 P (fX0_isBefore_i46 fu a1 a2 (fX0_isBefore_h46 fu a1 a2 n) s.1 s.2.1 s.2.2)
    exact y_fX0_isBefore_i46 hC ih h
theorem y_DX0_isBefore {P : mwM → mwL → Prop} (hC : CPc2 P) {fu : Nat} {a1 : Int32} {a2 : Int32} {M : mwM} {L : mwL} (h : P M L) : kq3 P (DX0_isBefore fu a1 a2 M L) := by
  unfold DX0_isBefore
  exact (kqK3 (fun q1 => (kqK3 (fun q2 => (kqI3 (y_fX0_isBefore_h46 hC _ (0, M, L) h) (kqK3 (fun q3 => (kqK3 (fun q4 => (kqI3 (y_fX0_isBefore_b43 hC h) (y_fX0_isBefore_b43 hC h)))))))))))
theorem y_fX0_plainBit_b75 {P : mwM → mwL → Prop} (hC : CPc2 P) {fu : Nat} {a1 : Int32} {a2 : Int32} {s0 : Int32} {M : mwM} {L : mwL} (h : P M L) : kq3 P (fX0_plainBit_b75 fu a1 a2 s0 M L) := by
  unfold fX0_plainBit_b75
  exact (kqS3 h)
theorem y_fX0_plainBit_b64 {P : mwM → mwL → Prop} (hC : CPc2 P) {fu : Nat} {a1 : Int32} {a2 : Int32} {M : mwM} {L : mwL} (h : P M L) : kq3 P (fX0_plainBit_b64 fu a1 a2 M L) := by
  unfold fX0_plainBit_b64
  exact (kqI3 (y_fX0_plainBit_b75 hC h) (y_fX0_plainBit_b75 hC h))
theorem y_DX0_plainBit {P : mwM → mwL → Prop} (hC : CPc2 P) {fu : Nat} {a1 : Int32} {a2 : Int32} {M : mwM} {L : mwL} (h : P M L) : kq3 P (DX0_plainBit fu a1 a2 M L) := by
  unfold DX0_plainBit
  exact (kqI3 (kqI3 (y_fX0_plainBit_b64 hC h) (kqI3 (y_fX0_plainBit_b64 hC h) (kqK3 (fun q1 => (kqS3 h))))) (kqK3 (fun q2 => (kqS3 h))))
theorem y_fX0_layOut_i158 {P : mwM → mwL → Prop} (hC : CPc2 P) {fu : Nat} {a1 : Int32} {a2 : Int32} {r158 : (Int32 × Int32 × mwM × mwL) → Option (mwM × mwL)} {v3 : Int32} {v7 : Int32} (hr158 : ∀ s, P s.2.2.1 s.2.2.2 → kq2 P (r158 s)) {M : mwM} {L : mwL} (h : P M L) : kq2 P (fX0_layOut_i158 fu a1 a2 r158 v3 v7 M L) := by
  unfold fX0_layOut_i158
  exact (kqI2 (kqK2 (fun q1 => (kqM2_c2 hC h (by omega) (fun M26 h2 => (kqS2 h2))))) (kqK2 (fun q3 => (kqK2 (fun q4 => (kqM2_c2 hC h (by omega) (fun M29 h5 => (kqL2 (fun x30 => (hr158 (v3, x30, M29, L) h5))))))))))
theorem y_fX0_layOut_h158 {P : mwM → mwL → Prop} (hC : CPc2 P) {fu : Nat} {a1 : Int32} {a2 : Int32} : ∀ n s, P s.2.2.1 s.2.2.2 → kq2 P (fX0_layOut_h158 fu a1 a2 n s) := by
  intro n
  induction n with
  | zero => intro s _; exact kqN2
  | succ n ih =>
    intro s h
    show kq2 P (fX0_layOut_i158 fu a1 a2 (fX0_layOut_h158 fu a1 a2 n) s.1 s.2.1 s.2.2.1 s.2.2.2)
    exact y_fX0_layOut_i158 hC ih h
theorem y_fX0_layOut_b149 {P : mwM → mwL → Prop} (hC : CPc2 P) {fu : Nat} {a1 : Int32} {a2 : Int32} {r14 : (Int32 × Int32 × Int32 × Int32 × Int32 × mwM × mwL) → Option (mwM × mwL)} {v3 : Int32} {v4 : Int32} {v5 : Int32} {v6 : Int32} {v7 : Int32} (hr14 : ∀ s, P s.2.2.2.2.2.1 s.2.2.2.2.2.2 → kq2 P (r14 s)) {M : mwM} {L : mwL} (h : P M L) : kq2 P (fX0_layOut_b149 fu a1 a2 r14 v3 v4 v5 v6 v7 M L) := by
  unfold fX0_layOut_b149
  exact (kqL2 (fun x22 => (hr14 (v3, v4, v5, v6, x22, M, L) h)))
theorem y_fX0_layOut_b115 {P : mwM → mwL → Prop} (hC : CPc2 P) {fu : Nat} {a1 : Int32} {a2 : Int32} {r14 : (Int32 × Int32 × Int32 × Int32 × Int32 × mwM × mwL) → Option (mwM × mwL)} {v3 : Int32} {v4 : Int32} {v7 : Int32} {v8 : Int32} {s0 : Int32} (hr14 : ∀ s, P s.2.2.2.2.2.1 s.2.2.2.2.2.2 → kq2 P (r14 s)) {M : mwM} {L : mwL} (h : P M L) : kq2 P (fX0_layOut_b115 fu a1 a2 r14 v3 v4 v7 v8 s0 M L) := by
  unfold fX0_layOut_b115
  exact (kqI2 (kqL2 (fun x17 => (kqK2 (fun q1 => (kqK2 (fun q2 => (kqM2_c2 hC h (by omega) (fun M20 h3 => (kqL2 (fun x21 => (y_fX0_layOut_b149 hC hr14 h3))))))))))) (y_fX0_layOut_b149 hC hr14 h))
theorem y_fX0_layOut_b95 {P : mwM → mwL → Prop} (hC : CPc2 P) {fu : Nat} {a1 : Int32} {a2 : Int32} {r14 : (Int32 × Int32 × Int32 × Int32 × Int32 × mwM × mwL) → Option (mwM × mwL)} {v3 : Int32} {v4 : Int32} {v5 : Int32} {v6 : Int32} {v7 : Int32} {v8 : Int32} {s0 : Nat} {s1 : Int32} {s2 : Int32} {s3 : Int32} (hr14 : ∀ s, P s.2.2.2.2.2.1 s.2.2.2.2.2.2 → kq2 P (r14 s)) (hk_s0 : 4 ≤ s0 ∧ s0 ≤ 689) {M : mwM} {L : mwL} (h : P M L) : kq2 P (fX0_layOut_b95 fu a1 a2 r14 v3 v4 v5 v6 v7 v8 s0 s1 s2 s3 M L) := by
  unfold fX0_layOut_b95
  exact (kqK2 (fun q1 => (kqM2_c2 hC h (by omega) (fun M13 h2 => (kqL2 (fun x14 => (kqI2 (y_fX0_layOut_b115 hC hr14 h2) (y_fX0_layOut_b115 hC hr14 h2))))))))
theorem y_fX0_layOut_b74 {P : mwM → mwL → Prop} (hC : CPc2 P) {fu : Nat} {a1 : Int32} {a2 : Int32} {r14 : (Int32 × Int32 × Int32 × Int32 × Int32 × mwM × mwL) → Option (mwM × mwL)} {v3 : Int32} {v4 : Int32} {v5 : Int32} {v6 : Int32} {v7 : Int32} {v8 : Int32} (hr14 : ∀ s, P s.2.2.2.2.2.1 s.2.2.2.2.2.2 → kq2 P (r14 s)) {M : mwM} {L : mwL} (h : P M L) : kq2 P (fX0_layOut_b74 fu a1 a2 r14 v3 v4 v5 v6 v7 v8 M L) := by
  unfold fX0_layOut_b74
  exact (kqK2 (fun q1 => (kqI2 (y_fX0_layOut_b95 hC hr14 (by omega) h) (y_fX0_layOut_b95 hC hr14 (by omega) h))))
theorem y_fX0_layOut_b51 {P : mwM → mwL → Prop} (hC : CPc2 P) {fu : Nat} {a1 : Int32} {a2 : Int32} {r14 : (Int32 × Int32 × Int32 × Int32 × Int32 × mwM × mwL) → Option (mwM × mwL)} {v3 : Int32} {v4 : Int32} {v5 : Int32} {v6 : Int32} {v7 : Int32} {s0 : Int32} (hr14 : ∀ s, P s.2.2.2.2.2.1 s.2.2.2.2.2.2 → kq2 P (r14 s)) {M : mwM} {L : mwL} (h : P M L) : kq2 P (fX0_layOut_b51 fu a1 a2 r14 v3 v4 v5 v6 v7 s0 M L) := by
  unfold fX0_layOut_b51
  exact (kqI2 (y_fX0_layOut_b74 hC hr14 h) (kqB32 (y_DX5_nextCheck hC h) (fun r9 M7 L8 h1 => (y_fX0_layOut_b74 hC hr14 h1))))
theorem y_fX0_layOut_i14 {P : mwM → mwL → Prop} (hC : CPc2 P) {fu : Nat} {a1 : Int32} {a2 : Int32} {r14 : (Int32 × Int32 × Int32 × Int32 × Int32 × mwM × mwL) → Option (mwM × mwL)} {v3 : Int32} {v4 : Int32} {v5 : Int32} {v6 : Int32} {v7 : Int32} (hr14 : ∀ s, P s.2.2.2.2.2.1 s.2.2.2.2.2.2 → kq2 P (r14 s)) {M : mwM} {L : mwL} (h : P M L) : kq2 P (fX0_layOut_i14 fu a1 a2 r14 v3 v4 v5 v6 v7 M L) := by
  unfold fX0_layOut_i14
  exact (kqI2 (y_fX0_layOut_h158 hC _ (v3, 0, M, L) h) (kqI2 (y_fX0_layOut_b51 hC hr14 h) (kqB32 (y_DX0_plainBit hC h) (fun r5 M3 L4 h1 => (y_fX0_layOut_b51 hC hr14 h1)))))
theorem y_fX0_layOut_h14 {P : mwM → mwL → Prop} (hC : CPc2 P) {fu : Nat} {a1 : Int32} {a2 : Int32} : ∀ n s, P s.2.2.2.2.2.1 s.2.2.2.2.2.2 → kq2 P (fX0_layOut_h14 fu a1 a2 n s) := by
  intro n
  induction n with
  | zero => intro s _; exact kqN2
  | succ n ih =>
    intro s h
    show kq2 P (fX0_layOut_i14 fu a1 a2 (fX0_layOut_h14 fu a1 a2 n) s.1 s.2.1 s.2.2.1 s.2.2.2.1 s.2.2.2.2.1 s.2.2.2.2.2.1 s.2.2.2.2.2.2)
    exact y_fX0_layOut_i14 hC ih h
theorem y_DX0_layOut {P : mwM → mwL → Prop} (hC : CPc2 P) {fu : Nat} {a1 : Int32} {a2 : Int32} {M : mwM} {L : mwL} (h : P M L) : kq2 P (DX0_layOut fu a1 a2 M L) := by
  unfold DX0_layOut
  exact (y_fX0_layOut_h14 hC _ (0, 0, 0, 1, 0, M, L) h)
theorem y_fX0_beginSending_b50 {P : mwM → mwL → Prop} (hC : CPc2 P) {fu : Nat} {a1 : Int32} {r4 : (Int32 × Int32 × mwM × mwL) → Option (mwM × mwL)} {v2 : Int32} {v3 : Int32} (hr4 : ∀ s, P s.2.2.1 s.2.2.2 → kq2 P (r4 s)) {M : mwM} {L : mwL} (h : P M L) : kq2 P (fX0_beginSending_b50 fu a1 r4 v2 v3 M L) := by
  unfold fX0_beginSending_b50
  exact (kqL2 (fun x26 => (hr4 (v2, x26, M, L) h)))
theorem y_fX0_beginSending_b48 {P : mwM → mwL → Prop} (hC : CPc2 P) {fu : Nat} {a1 : Int32} {r4 : (Int32 × Int32 × mwM × mwL) → Option (mwM × mwL)} {v3 : Int32} (hr4 : ∀ s, P s.2.2.1 s.2.2.2 → kq2 P (r4 s)) {M : mwM} {L : mwL} (h : P M L) : kq2 P (fX0_beginSending_b48 fu a1 r4 v3 M L) := by
  unfold fX0_beginSending_b48
  exact (y_fX0_beginSending_b50 hC hr4 h)
theorem y_fX0_beginSending_i4 {P : mwM → mwL → Prop} (hC : CPc2 P) {fu : Nat} {a1 : Int32} {r4 : (Int32 × Int32 × mwM × mwL) → Option (mwM × mwL)} {v2 : Int32} {v3 : Int32} (hr4 : ∀ s, P s.2.2.1 s.2.2.2 → kq2 P (r4 s)) {M : mwM} {L : mwL} (h : P M L) : kq2 P (fX0_beginSending_i4 fu a1 r4 v2 v3 M L) := by
  unfold fX0_beginSending_i4
  exact (kqI2 (kqK2 (fun q1 => (kqM2_c2 hC h (by omega) (fun M4 h2 => (kqK2 (fun q3 => (kqM2_c2 hC h2 (by omega) (fun M7 h4 => (kqK2 (fun q5 => (kqM2_c2 hC h4 (by omega) (fun M10 h6 => (kqK2 (fun q7 => (kqB22 (y_DX0_layOut hC h6) (fun M13 L14 h8 => (kqS2 h8))))))))))))))))) (kqK2 (fun q9 => (kqI2 (kqK2 (fun q10 => (kqI2 (kqI2 (y_fX0_beginSending_b48 hC hr4 h) (kqB32 (y_DX0_isBefore hC h) (fun r24 M22 L23 h11 => (kqI2 (y_fX0_beginSending_b50 hC hr4 h11) (y_fX0_beginSending_b48 hC hr4 h11))))) (y_fX0_beginSending_b50 hC hr4 h)))) (y_fX0_beginSending_b50 hC hr4 h)))))
theorem y_fX0_beginSending_h4 {P : mwM → mwL → Prop} (hC : CPc2 P) {fu : Nat} {a1 : Int32} : ∀ n s, P s.2.2.1 s.2.2.2 → kq2 P (fX0_beginSending_h4 fu a1 n s) := by
  intro n
  induction n with
  | zero => intro s _; exact kqN2
  | succ n ih =>
    intro s h
    show kq2 P (fX0_beginSending_i4 fu a1 (fX0_beginSending_h4 fu a1 n) s.1 s.2.1 s.2.2.1 s.2.2.2)
    exact y_fX0_beginSending_i4 hC ih h
theorem y_DX0_beginSending {P : mwM → mwL → Prop} (hC : CPc2 P) {fu : Nat} {a1 : Int32} {M : mwM} {L : mwL} (h : P M L) : kq2 P (DX0_beginSending fu a1 M L) := by
  unfold DX0_beginSending
  exact (y_fX0_beginSending_h4 hC _ (((-1)), 0, M, L) h)
theorem y_DX0_putOf {P : mwM → mwL → Prop} (hC : CPc2 P) {fu : Nat} {a1 : Int32} {M : mwM} {L : mwL} (h : P M L) : kq3 P (DX0_putOf fu a1 M L) := by
  unfold DX0_putOf
  exact (kqK3 (fun q1 => (kqL3 (fun x3 => (kqI3 (kqK3 (fun q2 => (kqI3 (kqS3 h) (kqB23 (y_DX0_beginSending hC h) (fun M8 L9 h3 => (kqS3 h3)))))) (kqI3 (kqK3 (fun q4 => (kqK3 (fun q5 => (kqK3 (fun q6 => (kqS3 h))))))) (kqI3 (kqK3 (fun q7 => (kqB33 (y_DX5_putBit hC h) (fun r19 M17 L18 h8 => (kqS3 h8))))) (kqI3 (kqS3 h) (kqS3 h)))))))))
theorem y_DX0_beginListening {P : mwM → mwL → Prop} (hC : CPc2 P) {fu : Nat} {a1 : Int32} {M : mwM} {L : mwL} (h : P M L) : kq2 P (DX0_beginListening fu a1 M L) := by
  unfold DX0_beginListening
  exact (kqK2 (fun q1 => (kqM2_c2 hC h (by omega) (fun M3 h2 => (kqK2 (fun q3 => (kqB22 (y_DX5_begin hC (by omega) h2) (fun M5 L6 h4 => (kqS2 h4)))))))))
theorem y_fX0_isLosing_b38 {P : mwM → mwL → Prop} (hC : CPc2 P) {fu : Nat} {a1 : Int32} {a2 : Int32} {s0 : Int32} {M : mwM} {L : mwL} (h : P M L) : kq3 P (fX0_isLosing_b38 fu a1 a2 s0 M L) := by
  unfold fX0_isLosing_b38
  exact (kq_mzz3 (kqS3 h))
theorem y_fX0_isLosing_b37 {P : mwM → mwL → Prop} (hC : CPc2 P) {fu : Nat} {a1 : Int32} {a2 : Int32} {M : mwM} {L : mwL} (h : P M L) : kq3 P (fX0_isLosing_b37 fu a1 a2 M L) := by
  unfold fX0_isLosing_b37
  exact (y_fX0_isLosing_b38 hC h)
theorem y_DX0_isLosing {P : mwM → mwL → Prop} (hC : CPc2 P) {fu : Nat} {a1 : Int32} {a2 : Int32} {M : mwM} {L : mwL} (h : P M L) : kq3 P (DX0_isLosing fu a1 a2 M L) := by
  unfold DX0_isLosing
  exact (kqK3 (fun q1 => (kqI3 (y_fX0_isLosing_b37 hC h) (kqK3 (fun q2 => (kqK3 (fun q3 => (kqK3 (fun q4 => (kqI3 (y_fX0_isLosing_b37 hC h) (y_fX0_isLosing_b38 hC h)))))))))))
theorem y_fX0_loseArbitration_i7 {P : mwM → mwL → Prop} (hC : CPc2 P) {fu : Nat} {a1 : Int32} {r7 : (Int32 × mwM × mwL) → Option (mwM × mwL)} {v2 : Int32} (hr7 : ∀ s, P s.2.1 s.2.2 → kq2 P (r7 s)) {M : mwM} {L : mwL} (h : P M L) : kq2 P (fX0_loseArbitration_i7 fu a1 r7 v2 M L) := by
  unfold fX0_loseArbitration_i7
  exact (kqK2 (fun q1 => (kqI2 (kqK2 (fun q2 => (kqB32 (y_DX5_hear hC (by omega) h) (fun r8 M5 L6 h3 => (kqS2 h3))))) (kqK2 (fun q4 => (kqK2 (fun q5 => (kqK2 (fun q6 => (kqB32 (y_DX5_hear hC (by omega) h) (fun r14 M12 L13 h7 => (kqL2 (fun x15 => (hr7 (x15, M12, L13) h7))))))))))))))
theorem y_fX0_loseArbitration_h7 {P : mwM → mwL → Prop} (hC : CPc2 P) {fu : Nat} {a1 : Int32} : ∀ n s, P s.2.1 s.2.2 → kq2 P (fX0_loseArbitration_h7 fu a1 n s) := by
  intro n
  induction n with
  | zero => intro s _; exact kqN2
  | succ n ih =>
    intro s h
    show kq2 P (fX0_loseArbitration_i7 fu a1 (fX0_loseArbitration_h7 fu a1 n) s.1 s.2.1 s.2.2)
    exact y_fX0_loseArbitration_i7 hC ih h
theorem y_DX0_loseArbitration {P : mwM → mwL → Prop} (hC : CPc2 P) {fu : Nat} {a1 : Int32} {M : mwM} {L : mwL} (h : P M L) : kq2 P (DX0_loseArbitration fu a1 M L) := by
  unfold DX0_loseArbitration
  exact (kqB22 (y_DX0_beginListening hC h) (fun M16 L17 h1 => (y_fX0_loseArbitration_h7 hC _ (1, M16, L17) h1)))
theorem y_DX0_become {P : mwM → mwL → Prop} (hC : CPc2 P) {fu : Nat} {a1 : Int32} {a2 : Int32} {a3 : Int32} {M : mwM} {L : mwL} (h : P M L) : kq2 P (DX0_become fu a1 a2 a3 M L) := by
  unfold DX0_become
  exact (kqK2 (fun q1 => (kqM2_c2 hC h (by omega) (fun M3 h2 => (kqK2 (fun q3 => (kqM2_c2 hC h2 (by omega) (fun M6 h4 => (kqS2 h4)))))))))
theorem y_fX0_tellFault_b39 {P : mwM → mwL → Prop} (hC : CPc2 P) {fu : Nat} {a1 : Int32} {a2 : Int32} {a3 : Int32} {M : mwM} {L : mwL} (h : P M L) : kq2 P (fX0_tellFault_b39 fu a1 a2 a3 M L) := by
  unfold fX0_tellFault_b39
  exact (kqB22 (y_DX0_become hC h) (fun M1 L2 h1 => (kqS2 h1)))
theorem y_DX0_tellFault {P : mwM → mwL → Prop} (hC : CPc2 P) {fu : Nat} {a1 : Int32} {a2 : Int32} {a3 : Int32} {M : mwM} {L : mwL} (h : P M L) : kq2 P (DX0_tellFault fu a1 a2 a3 M L) := by
  unfold DX0_tellFault
  exact (kqI2 (y_fX0_tellFault_b39 hC h) (kqK2 (fun q1 => (kqM2_c2 hC h (by omega) (fun M5 h2 => (kqM2_c2 hC h2 (by omega) (fun M6 h3 => (y_fX0_tellFault_b39 hC h3))))))))
theorem y_DX0_endSending {P : mwM → mwL → Prop} (hC : CPc2 P) {fu : Nat} {a1 : Int32} {M : mwM} {L : mwL} (h : P M L) : kq2 P (DX0_endSending fu a1 M L) := by
  unfold DX0_endSending
  exact (kqK2 (fun q1 => (kqK2 (fun q2 => (kqM2_c2 hC h (by omega) (fun M5 h3 => (kqK2 (fun q4 => (kqK2 (fun q5 => (kqM2_c2 hC h3 (by omega) (fun M9 h6 => (kqM2_c2 hC h6 (by omega) (fun M10 h7 => (kqB22 (y_DX0_become hC h7) (fun M11 L12 h8 => (kqS2 h8)))))))))))))))))
theorem y_fX0_seeSending_b115 {P : mwM → mwL → Prop} (hC : CPc2 P) {fu : Nat} {a1 : Int32} {a2 : Int32} {a3 : Int32} {M : mwM} {L : mwL} (h : P M L) : kq2 P (fX0_seeSending_b115 fu a1 a2 a3 M L) := by
  unfold fX0_seeSending_b115
  exact (kqS2 h)
theorem y_fX0_seeSending_b79 {P : mwM → mwL → Prop} (hC : CPc2 P) {fu : Nat} {a1 : Int32} {a2 : Int32} {a3 : Int32} {M : mwM} {L : mwL} (h : P M L) : kq2 P (fX0_seeSending_b79 fu a1 a2 a3 M L) := by
  unfold fX0_seeSending_b79
  exact (kqK2 (fun q1 => (kqK2 (fun q2 => (kqM2_c2 hC h (by omega) (fun M14 h3 => (kqK2 (fun q4 => (kqK2 (fun q5 => (kqI2 (y_fX0_seeSending_b115 hC h3) (kqB22 (y_DX0_endSending hC h3) (fun M20 L21 h6 => (y_fX0_seeSending_b115 hC h6))))))))))))))
theorem y_fX0_seeSending_b51 {P : mwM → mwL → Prop} (hC : CPc2 P) {fu : Nat} {a1 : Int32} {a2 : Int32} {a3 : Int32} {v4 : Int32} {M : mwM} {L : mwL} (h : P M L) : kq2 P (fX0_seeSending_b51 fu a1 a2 a3 v4 M L) := by
  unfold fX0_seeSending_b51
  exact (kqI2 (kqK2 (fun q1 => (kqI2 (y_fX0_seeSending_b79 hC h) (kqB22 (y_DX0_tellFault hC h) (fun M9 L10 h2 => (y_fX0_seeSending_b115 hC h2)))))) (y_fX0_seeSending_b79 hC h))
theorem y_fX0_seeSending_b29 {P : mwM → mwL → Prop} (hC : CPc2 P) {fu : Nat} {a1 : Int32} {a2 : Int32} {a3 : Int32} {s0 : Int32} {M : mwM} {L : mwL} (h : P M L) : kq2 P (fX0_seeSending_b29 fu a1 a2 a3 s0 M L) := by
  unfold fX0_seeSending_b29
  exact (kqI2 (y_fX0_seeSending_b51 hC h) (kqI2 (kqB22 (y_DX0_tellFault hC h) (fun M3 L4 h1 => (y_fX0_seeSending_b115 hC h1))) (y_fX0_seeSending_b51 hC h)))
theorem y_DX0_seeSending {P : mwM → mwL → Prop} (hC : CPc2 P) {fu : Nat} {a1 : Int32} {a2 : Int32} {a3 : Int32} {M : mwM} {L : mwL} (h : P M L) : kq2 P (DX0_seeSending fu a1 a2 a3 M L) := by
  unfold DX0_seeSending
  exact (kqK2 (fun q1 => (kqK2 (fun q2 => (kqI2 (y_fX0_seeSending_b29 hC h) (y_fX0_seeSending_b29 hC h))))))
theorem y_fX0_seeListening_b79 {P : mwM → mwL → Prop} (hC : CPc2 P) {fu : Nat} {a1 : Int32} {a2 : Int32} {a3 : Int32} {M : mwM} {L : mwL} (h : P M L) : kq2 P (fX0_seeListening_b79 fu a1 a2 a3 M L) := by
  unfold fX0_seeListening_b79
  exact (kqS2 h)
theorem y_DX0_seeListening {P : mwM → mwL → Prop} (hC : CPc2 P) {fu : Nat} {a1 : Int32} {a2 : Int32} {a3 : Int32} {M : mwM} {L : mwL} (h : P M L) : kq2 P (DX0_seeListening fu a1 a2 a3 M L) := by
  unfold DX0_seeListening
  exact (kqK2 (fun q1 => (kqB32 (y_DX5_hear hC (by omega) h) (fun r4 M2 L3 h2 => (kqI2 (kqK2 (fun q3 => (kqK2 (fun q4 => (kqM2_c2 hC h2 (by omega) (fun M15 h5 => (kqM2_c2 hC h5 (by omega) (fun M16 h6 => (y_fX0_seeListening_b79 hC h6))))))))) (kqI2 (kqB22 (y_DX0_become hC h2) (fun M10 L11 h7 => (y_fX0_seeListening_b79 hC h7))) (kqI2 (y_fX0_seeListening_b79 hC h2) (kqB22 (y_DX0_tellFault hC h2) (fun M8 L9 h8 => (y_fX0_seeListening_b79 hC h8))))))))))
theorem y_fX0_seeClearing_b60 {P : mwM → mwL → Prop} (hC : CPc2 P) {fu : Nat} {a1 : Int32} {a2 : Int32} {a3 : Int32} {M : mwM} {L : mwL} (h : P M L) : kq2 P (fX0_seeClearing_b60 fu a1 a2 a3 M L) := by
  unfold fX0_seeClearing_b60
  exact (kqS2 h)
theorem y_fX0_seeClearing_b34 {P : mwM → mwL → Prop} (hC : CPc2 P) {fu : Nat} {a1 : Int32} {a2 : Int32} {a3 : Int32} {s2 : Int32} {M : mwM} {L : mwL} (h : P M L) : kq2 P (fX0_seeClearing_b34 fu a1 a2 a3 s2 M L) := by
  unfold fX0_seeClearing_b34
  exact (kqB22 (y_DX0_tellFault hC h) (fun M1 L2 h1 => (y_fX0_seeClearing_b60 hC h1)))
theorem y_DX0_seeClearing {P : mwM → mwL → Prop} (hC : CPc2 P) {fu : Nat} {a1 : Int32} {a2 : Int32} {a3 : Int32} {M : mwM} {L : mwL} (h : P M L) : kq2 P (DX0_seeClearing fu a1 a2 a3 M L) := by
  unfold DX0_seeClearing
  exact (kqK2 (fun q1 => (kqK2 (fun q2 => (kqM2_c2 hC h (by omega) (fun M6 h3 => (kqI2 (kqK2 (fun q4 => (kqI2 (y_fX0_seeClearing_b34 hC h3) (y_fX0_seeClearing_b34 hC h3)))) (kqK2 (fun q5 => (kqI2 (kqB22 (y_DX0_become hC h3) (fun M11 L12 h6 => (y_fX0_seeClearing_b60 hC h6))) (y_fX0_seeClearing_b60 hC h3)))))))))))
theorem y_fX0_seePausing_b101 {P : mwM → mwL → Prop} (hC : CPc2 P) {fu : Nat} {a1 : Int32} {a2 : Int32} {a3 : Int32} {M : mwM} {L : mwL} (h : P M L) : kq2 P (fX0_seePausing_b101 fu a1 a2 a3 M L) := by
  unfold fX0_seePausing_b101
  exact (kqS2 h)
theorem y_fX0_seePausing_b69 {P : mwM → mwL → Prop} (hC : CPc2 P) {fu : Nat} {a1 : Int32} {a2 : Int32} {a3 : Int32} {M : mwM} {L : mwL} (h : P M L) : kq2 P (fX0_seePausing_b69 fu a1 a2 a3 M L) := by
  unfold fX0_seePausing_b69
  exact (kqI2 (kqB22 (y_DX0_beginListening hC h) (fun M17 L18 h1 => (y_fX0_seePausing_b101 hC h1))) (kqK2 (fun q2 => (kqI2 (kqK2 (fun q3 => (kqM2_c2 hC h (by omega) (fun M16 h4 => (y_fX0_seePausing_b101 hC h4))))) (y_fX0_seePausing_b101 hC h)))))
theorem y_fX0_seePausing_b37 {P : mwM → mwL → Prop} (hC : CPc2 P) {fu : Nat} {a1 : Int32} {a2 : Int32} {a3 : Int32} {M : mwM} {L : mwL} (h : P M L) : kq2 P (fX0_seePausing_b37 fu a1 a2 a3 M L) := by
  unfold fX0_seePausing_b37
  exact (kqI2 (kqK2 (fun q1 => (kqI2 (y_fX0_seePausing_b69 hC h) (kqB22 (y_DX0_beginSending hC h) (fun M5 L6 h2 => (kqK2 (fun q3 => (kqM2_c2 hC h2 (by omega) (fun M9 h4 => (y_fX0_seePausing_b101 hC h4)))))))))) (y_fX0_seePausing_b69 hC h))
theorem y_DX0_seePausing {P : mwM → mwL → Prop} (hC : CPc2 P) {fu : Nat} {a1 : Int32} {a2 : Int32} {a3 : Int32} {M : mwM} {L : mwL} (h : P M L) : kq2 P (DX0_seePausing fu a1 a2 a3 M L) := by
  unfold DX0_seePausing
  exact (kqK2 (fun q1 => (kqK2 (fun q2 => (kqM2_c2 hC h (by omega) (fun M22 h3 => (kqI2 (kqK2 (fun q4 => (kqI2 (y_fX0_seePausing_b37 hC h3) (kqB22 (y_DX0_tellFault hC h3) (fun M27 L28 h5 => (y_fX0_seePausing_b101 hC h5)))))) (y_fX0_seePausing_b37 hC h3))))))))
theorem y_fX0_see_b165 {P : mwM → mwL → Prop} (hC : CPc2 P) {fu : Nat} {a1 : Int32} {a2 : Int32} {a3 : Int32} {M : mwM} {L : mwL} (h : P M L) : kq2 P (fX0_see_b165 fu a1 a2 a3 M L) := by
  unfold fX0_see_b165
  exact (kqS2 h)
theorem y_DX0_see {P : mwM → mwL → Prop} (hC : CPc2 P) {fu : Nat} {a1 : Int32} {a2 : Int32} {a3 : Int32} {M : mwM} {L : mwL} (h : P M L) : kq2 P (DX0_see fu a1 a2 a3 M L) := by
  unfold DX0_see
  exact (kqK2 (fun q1 => (kqL2 (fun x3 => (kqI2 (kqI2 (kqB22 (y_DX0_beginListening hC h) (fun M6 L7 h2 => (y_fX0_see_b165 hC h2))) (y_fX0_see_b165 hC h)) (kqI2 (kqB32 (y_DX0_isLosing hC h) (fun r11 M9 L10 h3 => (kqI2 (kqB22 (y_DX0_seeSending hC h3) (fun M13 L14 h4 => (y_fX0_see_b165 hC h4))) (kqB22 (y_DX0_loseArbitration hC h3) (fun M15 L16 h5 => (y_fX0_see_b165 hC h5)))))) (kqI2 (kqB22 (y_DX0_seeListening hC h) (fun M18 L19 h6 => (y_fX0_see_b165 hC h6))) (kqI2 (kqK2 (fun q7 => (kqK2 (fun q8 => (kqM2_c2 hC h (by omega) (fun M24 h9 => (kqK2 (fun q10 => (kqI2 (kqK2 (fun q11 => (kqM2_c2 hC h9 (by omega) (fun M30 h12 => (y_fX0_see_b165 hC h12))))) (y_fX0_see_b165 hC h9)))))))))) (kqI2 (kqI2 (kqB22 (y_DX0_become hC h) (fun M33 L34 h13 => (y_fX0_see_b165 hC h13))) (y_fX0_see_b165 hC h)) (kqI2 (kqB22 (y_DX0_seeClearing hC h) (fun M36 L37 h14 => (y_fX0_see_b165 hC h14))) (kqB22 (y_DX0_seePausing hC h) (fun M38 L39 h15 => (y_fX0_see_b165 hC h15)))))))))))))
theorem y_fX0_passBit_b146 {P : mwM → mwL → Prop} (hC : CPc2 P) {fu : Nat} {a1 : Int32} {r88 : (Int32 × Int32 × mwM × mwL) → Option (mwM × mwL)} {v2 : Int32} {v3 : Int32} {s1 : Int32} {s2 : Int32} (hr88 : ∀ s, P s.2.2.1 s.2.2.2 → kq2 P (r88 s)) {M : mwM} {L : mwL} (h : P M L) : kq2 P (fX0_passBit_b146 fu a1 r88 v2 v3 s1 s2 M L) := by
  unfold fX0_passBit_b146
  exact (kq_mzz2 (kqM2_c2 hC h (by omega) (fun M26 h1 => (kqL2 (fun x27 => (hr88 (v2, x27, M26, L) h1))))))
theorem y_fX0_passBit_b145 {P : mwM → mwL → Prop} (hC : CPc2 P) {fu : Nat} {a1 : Int32} {r88 : (Int32 × Int32 × mwM × mwL) → Option (mwM × mwL)} {v2 : Int32} {v3 : Int32} {s1 : Int32} (hr88 : ∀ s, P s.2.2.1 s.2.2.2 → kq2 P (r88 s)) {M : mwM} {L : mwL} (h : P M L) : kq2 P (fX0_passBit_b145 fu a1 r88 v2 v3 s1 M L) := by
  unfold fX0_passBit_b145
  exact (y_fX0_passBit_b146 hC hr88 h)
theorem y_fX0_passBit_i88 {P : mwM → mwL → Prop} (hC : CPc2 P) {fu : Nat} {a1 : Int32} {r88 : (Int32 × Int32 × mwM × mwL) → Option (mwM × mwL)} {v2 : Int32} {v3 : Int32} (hr88 : ∀ s, P s.2.2.1 s.2.2.2 → kq2 P (r88 s)) {M : mwM} {L : mwL} (h : P M L) : kq2 P (fX0_passBit_i88 fu a1 r88 v2 v3 M L) := by
  unfold fX0_passBit_i88
  exact (kqI2 (kqS2 h) (kqK2 (fun q1 => (kqB22 (y_DX0_see hC h) (fun M17 L18 h2 => (kqK2 (fun q3 => (kqI2 (kqK2 (fun q4 => (kqI2 (y_fX0_passBit_b146 hC hr88 h2) (y_fX0_passBit_b145 hC hr88 h2)))) (y_fX0_passBit_b145 hC hr88 h2)))))))))
theorem y_fX0_passBit_h88 {P : mwM → mwL → Prop} (hC : CPc2 P) {fu : Nat} {a1 : Int32} : ∀ n s, P s.2.2.1 s.2.2.2 → kq2 P (fX0_passBit_h88 fu a1 n s) := by
  intro n
  induction n with
  | zero => intro s _; exact kqN2
  | succ n ih =>
    intro s h
    show kq2 P (fX0_passBit_i88 fu a1 (fX0_passBit_h88 fu a1 n) s.1 s.2.1 s.2.2.1 s.2.2.2)
    exact y_fX0_passBit_i88 hC ih h
theorem y_fX0_passBit_i33 {P : mwM → mwL → Prop} (hC : CPc2 P) {fu : Nat} {a1 : Int32} {r33 : (Int32 × Int32 × mwM × mwL) → Option (mwM × mwL)} {v2 : Int32} {v3 : Int32} (hr33 : ∀ s, P s.2.2.1 s.2.2.2 → kq2 P (r33 s)) {M : mwM} {L : mwL} (h : P M L) : kq2 P (fX0_passBit_i33 fu a1 r33 v2 v3 M L) := by
  unfold fX0_passBit_i33
  exact (kqI2 (kqK2 (fun q1 => (kqM2_c2 hC h (by omega) (fun M3 h2 => (kqM2_c2 hC h2 (by omega) (fun M4 h3 => (y_fX0_passBit_h88 hC _ (v2, 0, M4, L) h3))))))) (kqB32 (y_DX0_putOf hC h) (fun r8 M6 L7 h4 => (kqK2 (fun q5 => (kqM2_c2 hC h4 (by omega) (fun M10 h6 => (kqK2 (fun q7 => (kqL2 (fun x13 => (kqL2 (fun x14 => (hr33 (x13, x14, M10, L7) h6))))))))))))))
theorem y_fX0_passBit_h33 {P : mwM → mwL → Prop} (hC : CPc2 P) {fu : Nat} {a1 : Int32} : ∀ n s, P s.2.2.1 s.2.2.2 → kq2 P (fX0_passBit_h33 fu a1 n s) := by
  intro n
  induction n with
  | zero => intro s _; exact kqN2
  | succ n ih =>
    intro s h
    show kq2 P (fX0_passBit_i33 fu a1 (fX0_passBit_h33 fu a1 n) s.1 s.2.1 s.2.2.1 s.2.2.2)
    exact y_fX0_passBit_i33 hC ih h
theorem y_fX0_passBit_b29 {P : mwM → mwL → Prop} (hC : CPc2 P) {fu : Nat} {a1 : Int32} {M : mwM} {L : mwL} (h : P M L) : kq2 P (fX0_passBit_b29 fu a1 M L) := by
  unfold fX0_passBit_b29
  exact (y_fX0_passBit_h33 hC _ (1, 0, M, L) h)
theorem y_DX0_passBit {P : mwM → mwL → Prop} (hC : CPc2 P) {fu : Nat} {a1 : Int32} {M : mwM} {L : mwL} (h : P M L) : kq2 P (DX0_passBit fu a1 M L) := by
  unfold DX0_passBit
  exact (kqM2_c2 hC h (by omega) (fun M28 h1 => (kqK2 (fun q2 => (kqM2_c2 hC h1 (by omega) (fun M30 h3 => (kqI2 (y_fX0_passBit_b29 hC h3) (kqK2 (fun q4 => (kqI2 (kqS2 h3) (y_fX0_passBit_b29 hC h3)))))))))))
theorem y_DX6_clear {P : mwM → mwL → Prop} (hC : CPc2 P) {fu : Nat} {M : mwM} {L : mwL} (h : P M L) : kq2 P (DX6_clear fu M L) := by
  unfold DX6_clear
  exact (kqM2_c2 hC h (by omega) (fun M1 h1 => (kqM2_c2 hC h1 (by omega) (fun M2 h2 => (kqM2_c2 hC h2 (by omega) (fun M3 h3 => (kqM2_c2 hC h3 (by omega) (fun M4 h4 => (kqS2 h4)))))))))
theorem y_fX6_addSignal_b93 {P : mwM → mwL → Prop} (hC : CPc2 P) {fu : Nat} {a1 : Int32} {a2 : Int32} {a3 : Int32} {a4 : Int32} {a5 : Int32} {a6 : Int32} {a7 : Int32} {s1 : Int32} {s2 : Int32} {M : mwM} {L : mwL} (h : P M L) : kq2 P (fX6_addSignal_b93 fu a1 a2 a3 a4 a5 a6 a7 s1 s2 M L) := by
  unfold fX6_addSignal_b93
  exact (kqK2 (fun q1 => (kqM2_c2 hC h (by omega) (fun M2 h2 => (kqK2 (fun q3 => (kqM2_c2 hC h2 (by omega) (fun M5 h4 => (kqM2_c2 hC h4 (by omega) (fun M6 h5 => (kqS2 h5)))))))))))
theorem y_DX6_addSignal {P : mwM → mwL → Prop} (hC : CPc2 P) {fu : Nat} {a1 : Int32} {a2 : Int32} {a3 : Int32} {a4 : Int32} {a5 : Int32} {a6 : Int32} {a7 : Int32} {M : mwM} {L : mwL} (h : P M L) : kq2 P (DX6_addSignal fu a1 a2 a3 a4 a5 a6 a7 M L) := by
  unfold DX6_addSignal
  exact (kqI2 (kqK2 (fun q1 => (kqM2_c2 hC h (by omega) (fun M10 h2 => (kqK2 (fun q3 => (kqM2_c2 hC h2 (by omega) (fun M13 h4 => (kqK2 (fun q5 => (kqM2_c2 hC h4 (by omega) (fun M16 h6 => (kqK2 (fun q7 => (kqM2_c2 hC h6 (by omega) (fun M19 h8 => (kqK2 (fun q9 => (kqM2_c2 hC h8 (by omega) (fun M22 h10 => (kqI2 (y_fX6_addSignal_b93 hC h10) (y_fX6_addSignal_b93 hC h10)))))))))))))))))))))) (kqS2 h))
theorem y_DX6_addKey {P : mwM → mwL → Prop} (hC : CPc2 P) {fu : Nat} {a1 : Int32} {a2 : Int32} {a3 : Int32} {M : mwM} {L : mwL} (h : P M L) : kq2 P (DX6_addKey fu a1 a2 a3 M L) := by
  unfold DX6_addKey
  exact (kqI2 (kqK2 (fun q1 => (kqM2_c2 hC h (by omega) (fun M4 h2 => (kqK2 (fun q3 => (kqM2_c2 hC h2 (by omega) (fun M7 h4 => (kqK2 (fun q5 => (kqM2_c2 hC h4 (by omega) (fun M10 h6 => (kqM2_c2 hC h6 (by omega) (fun M11 h7 => (kqS2 h7))))))))))))))) (kqS2 h))
theorem y_fX6_keyOf_b43 {P : mwM → mwL → Prop} (hC : CPc2 P) {fu : Nat} {a1 : Int32} {a2 : Int32} {r2 : (Int32 × mwM × mwL) → Option (Int32 × mwM × mwL)} {v3 : Int32} (hr2 : ∀ s, P s.2.1 s.2.2 → kq3 P (r2 s)) {M : mwM} {L : mwL} (h : P M L) : kq3 P (fX6_keyOf_b43 fu a1 a2 r2 v3 M L) := by
  unfold fX6_keyOf_b43
  exact (kqL3 (fun x10 => (hr2 (x10, M, L) h)))
theorem y_fX6_keyOf_i2 {P : mwM → mwL → Prop} (hC : CPc2 P) {fu : Nat} {a1 : Int32} {a2 : Int32} {r2 : (Int32 × mwM × mwL) → Option (Int32 × mwM × mwL)} {v3 : Int32} (hr2 : ∀ s, P s.2.1 s.2.2 → kq3 P (r2 s)) {M : mwM} {L : mwL} (h : P M L) : kq3 P (fX6_keyOf_i2 fu a1 a2 r2 v3 M L) := by
  unfold fX6_keyOf_i2
  exact (kqI3 (kqS3 h) (kqK3 (fun q1 => (kqI3 (kqK3 (fun q2 => (kqI3 (kqK3 (fun q3 => (kqS3 h))) (y_fX6_keyOf_b43 hC hr2 h)))) (y_fX6_keyOf_b43 hC hr2 h)))))
theorem y_fX6_keyOf_h2 {P : mwM → mwL → Prop} (hC : CPc2 P) {fu : Nat} {a1 : Int32} {a2 : Int32} : ∀ n s, P s.2.1 s.2.2 → kq3 P (fX6_keyOf_h2 fu a1 a2 n s) := by
  intro n
  induction n with
  | zero => intro s _; exact kqN3
  | succ n ih =>
    intro s h
    show kq3 P (fX6_keyOf_i2 fu a1 a2 (fX6_keyOf_h2 fu a1 a2 n) s.1 s.2.1 s.2.2)
    exact y_fX6_keyOf_i2 hC ih h
theorem y_DX6_keyOf {P : mwM → mwL → Prop} (hC : CPc2 P) {fu : Nat} {a1 : Int32} {a2 : Int32} {M : mwM} {L : mwL} (h : P M L) : kq3 P (DX6_keyOf fu a1 a2 M L) := by
  unfold DX6_keyOf
  exact (y_fX6_keyOf_h2 hC _ (0, M, L) h)
theorem y_DX6_octetsOf {P : mwM → mwL → Prop} (hC : CPc2 P) {fu : Nat} {a1 : Int32} {M : mwM} {L : mwL} (h : P M L) : kq3 P (DX6_octetsOf fu a1 M L) := by
  unfold DX6_octetsOf
  exact (kqK3 (fun q1 => (kqS3 h)))
theorem y_fX6_findTooLarge_b68 {P : mwM → mwL → Prop} (hC : CPc2 P) {fu : Nat} {a1 : Int32} {r2 : (Int32 × mwM × mwL) → Option (Int32 × mwM × mwL)} {r9 : (Int32 × Int32 × mwM × mwL) → Option (Int32 × mwM × mwL)} {v2 : Int32} {v3 : Int32} (hr2 : ∀ s, P s.2.1 s.2.2 → kq3 P (r2 s)) (hr9 : ∀ s, P s.2.2.1 s.2.2.2 → kq3 P (r9 s)) {M : mwM} {L : mwL} (h : P M L) : kq3 P (fX6_findTooLarge_b68 fu a1 r2 r9 v2 v3 M L) := by
  unfold fX6_findTooLarge_b68
  exact (kqL3 (fun x18 => (hr9 (v2, x18, M, L) h)))
theorem y_fX6_findTooLarge_b50 {P : mwM → mwL → Prop} (hC : CPc2 P) {fu : Nat} {a1 : Int32} {r2 : (Int32 × mwM × mwL) → Option (Int32 × mwM × mwL)} {r9 : (Int32 × Int32 × mwM × mwL) → Option (Int32 × mwM × mwL)} {v2 : Int32} {v3 : Int32} {s0 : Int32} (hr2 : ∀ s, P s.2.1 s.2.2 → kq3 P (r2 s)) (hr9 : ∀ s, P s.2.2.1 s.2.2.2 → kq3 P (r9 s)) {M : mwM} {L : mwL} (h : P M L) : kq3 P (fX6_findTooLarge_b50 fu a1 r2 r9 v2 v3 s0 M L) := by
  unfold fX6_findTooLarge_b50
  exact (kqI3 (y_fX6_findTooLarge_b68 hC hr2 hr9 h) (kqB33 (y_DX6_octetsOf hC h) (fun r16 M14 L15 h1 => (kqI3 (y_fX6_findTooLarge_b68 hC hr2 hr9 h1) (kqS3 h1)))))
theorem y_fX6_findTooLarge_b49 {P : mwM → mwL → Prop} (hC : CPc2 P) {fu : Nat} {a1 : Int32} {r2 : (Int32 × mwM × mwL) → Option (Int32 × mwM × mwL)} {r9 : (Int32 × Int32 × mwM × mwL) → Option (Int32 × mwM × mwL)} {v2 : Int32} {v3 : Int32} (hr2 : ∀ s, P s.2.1 s.2.2 → kq3 P (r2 s)) (hr9 : ∀ s, P s.2.2.1 s.2.2.2 → kq3 P (r9 s)) {M : mwM} {L : mwL} (h : P M L) : kq3 P (fX6_findTooLarge_b49 fu a1 r2 r9 v2 v3 M L) := by
  unfold fX6_findTooLarge_b49
  exact (y_fX6_findTooLarge_b50 hC hr2 hr9 h)
theorem y_fX6_findTooLarge_i9 {P : mwM → mwL → Prop} (hC : CPc2 P) {fu : Nat} {a1 : Int32} {r2 : (Int32 × mwM × mwL) → Option (Int32 × mwM × mwL)} {r9 : (Int32 × Int32 × mwM × mwL) → Option (Int32 × mwM × mwL)} {v2 : Int32} {v3 : Int32} (hr2 : ∀ s, P s.2.1 s.2.2 → kq3 P (r2 s)) (hr9 : ∀ s, P s.2.2.1 s.2.2.2 → kq3 P (r9 s)) {M : mwM} {L : mwL} (h : P M L) : kq3 P (fX6_findTooLarge_i9 fu a1 r2 r9 v2 v3 M L) := by
  unfold fX6_findTooLarge_i9
  exact (kqI3 (kqL3 (fun x3 => (hr2 (x3, M, L) h))) (kqK3 (fun q1 => (kqI3 (kqK3 (fun q2 => (kqB33 (y_DX6_keyOf hC h) (fun r11 M9 L10 h3 => (kqI3 (y_fX6_findTooLarge_b49 hC hr2 hr9 h3) (y_fX6_findTooLarge_b50 hC hr2 hr9 h3)))))) (y_fX6_findTooLarge_b49 hC hr2 hr9 h)))))
theorem y_fX6_findTooLarge_h9 {P : mwM → mwL → Prop} (hC : CPc2 P) {fu : Nat} {a1 : Int32} {r2 : (Int32 × mwM × mwL) → Option (Int32 × mwM × mwL)} (hr2 : ∀ s, P s.2.1 s.2.2 → kq3 P (r2 s)) : ∀ n s, P s.2.2.1 s.2.2.2 → kq3 P (fX6_findTooLarge_h9 fu a1 r2 n s) := by
  intro n
  induction n with
  | zero => intro s _; exact kqN3
  | succ n ih =>
    intro s h
    show kq3 P (fX6_findTooLarge_i9 fu a1 r2 (fX6_findTooLarge_h9 fu a1 r2 n) s.1 s.2.1 s.2.2.1 s.2.2.2)
    exact y_fX6_findTooLarge_i9 hC hr2 ih h
theorem y_fX6_findTooLarge_i2 {P : mwM → mwL → Prop} (hC : CPc2 P) {fu : Nat} {a1 : Int32} {r2 : (Int32 × mwM × mwL) → Option (Int32 × mwM × mwL)} {v2 : Int32} (hr2 : ∀ s, P s.2.1 s.2.2 → kq3 P (r2 s)) {M : mwM} {L : mwL} (h : P M L) : kq3 P (fX6_findTooLarge_i2 fu a1 r2 v2 M L) := by
  unfold fX6_findTooLarge_i2
  exact (kqI3 (kqS3 h) (y_fX6_findTooLarge_h9 hC hr2 _ (v2, 0, M, L) h))
theorem y_fX6_findTooLarge_h2 {P : mwM → mwL → Prop} (hC : CPc2 P) {fu : Nat} {a1 : Int32} : ∀ n s, P s.2.1 s.2.2 → kq3 P (fX6_findTooLarge_h2 fu a1 n s) := by
  intro n
  induction n with
  | zero => intro s _; exact kqN3
  | succ n ih =>
    intro s h
    show kq3 P (fX6_findTooLarge_i2 fu a1 (fX6_findTooLarge_h2 fu a1 n) s.1 s.2.1 s.2.2)
    exact y_fX6_findTooLarge_i2 hC ih h
theorem y_DX6_findTooLarge {P : mwM → mwL → Prop} (hC : CPc2 P) {fu : Nat} {a1 : Int32} {M : mwM} {L : mwL} (h : P M L) : kq3 P (DX6_findTooLarge fu a1 M L) := by
  unfold DX6_findTooLarge
  exact (y_fX6_findTooLarge_h2 hC _ (0, M, L) h)
theorem y_fX6_isOf_b38 {P : mwM → mwL → Prop} (hC : CPc2 P) {fu : Nat} {a1 : Int32} {a2 : Int32} {a3 : Int32} {s0 : Int32} {M : mwM} {L : mwL} (h : P M L) : kq3 P (fX6_isOf_b38 fu a1 a2 a3 s0 M L) := by
  unfold fX6_isOf_b38
  exact (kq_mzz3 (kqS3 h))
theorem y_fX6_isOf_b37 {P : mwM → mwL → Prop} (hC : CPc2 P) {fu : Nat} {a1 : Int32} {a2 : Int32} {a3 : Int32} {M : mwM} {L : mwL} (h : P M L) : kq3 P (fX6_isOf_b37 fu a1 a2 a3 M L) := by
  unfold fX6_isOf_b37
  exact (y_fX6_isOf_b38 hC h)
theorem y_fX6_isOf_b29 {P : mwM → mwL → Prop} (hC : CPc2 P) {fu : Nat} {a1 : Int32} {a2 : Int32} {a3 : Int32} {s0 : Int32} {M : mwM} {L : mwL} (h : P M L) : kq3 P (fX6_isOf_b29 fu a1 a2 a3 s0 M L) := by
  unfold fX6_isOf_b29
  exact (kqI3 (y_fX6_isOf_b38 hC h) (y_fX6_isOf_b37 hC h))
theorem y_DX6_isOf {P : mwM → mwL → Prop} (hC : CPc2 P) {fu : Nat} {a1 : Int32} {a2 : Int32} {a3 : Int32} {M : mwM} {L : mwL} (h : P M L) : kq3 P (DX6_isOf fu a1 a2 a3 M L) := by
  unfold DX6_isOf
  exact (kqK3 (fun q1 => (kqI3 (kqK3 (fun q2 => (kqI3 (y_fX6_isOf_b29 hC h) (y_fX6_isOf_b29 hC h)))) (y_fX6_isOf_b37 hC h))))
theorem y_fX6_nextPeriod_b56 {P : mwM → mwL → Prop} (hC : CPc2 P) {fu : Nat} {a1 : Int32} {a2 : Int32} {a3 : Int32} {r7 : (Int32 × Int32 × mwM × mwL) → Option (Int32 × mwM × mwL)} {v4 : Int32} {v5 : Int32} (hr7 : ∀ s, P s.2.2.1 s.2.2.2 → kq3 P (r7 s)) {M : mwM} {L : mwL} (h : P M L) : kq3 P (fX6_nextPeriod_b56 fu a1 a2 a3 r7 v4 v5 M L) := by
  unfold fX6_nextPeriod_b56
  exact (kqL3 (fun x12 => (hr7 (v4, x12, M, L) h)))
theorem y_fX6_nextPeriod_i7 {P : mwM → mwL → Prop} (hC : CPc2 P) {fu : Nat} {a1 : Int32} {a2 : Int32} {a3 : Int32} {r7 : (Int32 × Int32 × mwM × mwL) → Option (Int32 × mwM × mwL)} {v4 : Int32} {v5 : Int32} (hr7 : ∀ s, P s.2.2.1 s.2.2.2 → kq3 P (r7 s)) {M : mwM} {L : mwL} (h : P M L) : kq3 P (fX6_nextPeriod_i7 fu a1 a2 a3 r7 v4 v5 M L) := by
  unfold fX6_nextPeriod_i7
  exact (kqI3 (kqS3 h) (kqB33 (y_DX6_isOf hC h) (fun r4 M2 L3 h1 => (kqI3 (y_fX6_nextPeriod_b56 hC hr7 h1) (kqK3 (fun q2 => (kqI3 (y_fX6_nextPeriod_b56 hC hr7 h1) (kqK3 (fun q3 => (kqL3 (fun x11 => (y_fX6_nextPeriod_b56 hC hr7 h1))))))))))))
theorem y_fX6_nextPeriod_h7 {P : mwM → mwL → Prop} (hC : CPc2 P) {fu : Nat} {a1 : Int32} {a2 : Int32} {a3 : Int32} : ∀ n s, P s.2.2.1 s.2.2.2 → kq3 P (fX6_nextPeriod_h7 fu a1 a2 a3 n s) := by
  intro n
  induction n with
  | zero => intro s _; exact kqN3
  | succ n ih =>
    intro s h
    show kq3 P (fX6_nextPeriod_i7 fu a1 a2 a3 (fX6_nextPeriod_h7 fu a1 a2 a3 n) s.1 s.2.1 s.2.2.1 s.2.2.2)
    exact y_fX6_nextPeriod_i7 hC ih h
theorem y_DX6_nextPeriod {P : mwM → mwL → Prop} (hC : CPc2 P) {fu : Nat} {a1 : Int32} {a2 : Int32} {a3 : Int32} {M : mwM} {L : mwL} (h : P M L) : kq3 P (DX6_nextPeriod fu a1 a2 a3 M L) := by
  unfold DX6_nextPeriod
  exact (y_fX6_nextPeriod_h7 hC _ (1000000, 0, M, L) h)
theorem y_fX6_collectGroups_b115 {P : mwM → mwL → Prop} (hC : CPc2 P) {fu : Nat} {a1 : Int32} {a2 : Int32} {a3 : Int32} {r8 : (Int32 × mwM × mwL) → Option (mwM × mwL)} {v4 : Int32} (hr8 : ∀ s, P s.2.1 s.2.2 → kq2 P (r8 s)) {M : mwM} {L : mwL} (h : P M L) : kq2 P (fX6_collectGroups_b115 fu a1 a2 a3 r8 v4 M L) := by
  unfold fX6_collectGroups_b115
  exact (kqL2 (fun x26 => (hr8 (x26, M, L) h)))
theorem y_fX6_collectGroups_b96 {P : mwM → mwL → Prop} (hC : CPc2 P) {fu : Nat} {a1 : Int32} {a2 : Int32} {a3 : Int32} {r8 : (Int32 × mwM × mwL) → Option (mwM × mwL)} {v4 : Int32} {v5 : Int32} (hr8 : ∀ s, P s.2.1 s.2.2 → kq2 P (r8 s)) {M : mwM} {L : mwL} (h : P M L) : kq2 P (fX6_collectGroups_b96 fu a1 a2 a3 r8 v4 v5 M L) := by
  unfold fX6_collectGroups_b96
  exact (kqK2 (fun q1 => (kqM2_c2 hC h (by omega) (fun M24 h2 => (kqM2_c2 hC h2 (by omega) (fun M25 h3 => (y_fX6_collectGroups_b115 hC hr8 h3)))))))
theorem y_fX6_collectGroups_i47 {P : mwM → mwL → Prop} (hC : CPc2 P) {fu : Nat} {a1 : Int32} {a2 : Int32} {a3 : Int32} {r8 : (Int32 × mwM × mwL) → Option (mwM × mwL)} {r47 : (Int32 × Int32 × mwM × mwL) → Option (mwM × mwL)} {v4 : Int32} {v5 : Int32} (hr8 : ∀ s, P s.2.1 s.2.2 → kq2 P (r8 s)) (hr47 : ∀ s, P s.2.2.1 s.2.2.2 → kq2 P (r47 s)) {M : mwM} {L : mwL} (h : P M L) : kq2 P (fX6_collectGroups_i47 fu a1 a2 a3 r8 r47 v4 v5 M L) := by
  unfold fX6_collectGroups_i47
  exact (kqI2 (y_fX6_collectGroups_b96 hC hr8 h) (kqK2 (fun q1 => (kqB32 (y_DX6_octetsOf hC h) (fun r14 M12 L13 h2 => (kqB32 (y_DX6_octetsOf hC h2) (fun r17 M15 L16 h3 => (kqI2 (y_fX6_collectGroups_b96 hC hr8 h3) (kqK2 (fun q4 => (kqK2 (fun q5 => (kqM2_c2 hC h3 (by omega) (fun M21 h6 => (kqL2 (fun x22 => (hr47 (v4, x22, M21, L16) h6)))))))))))))))))
theorem y_fX6_collectGroups_h47 {P : mwM → mwL → Prop} (hC : CPc2 P) {fu : Nat} {a1 : Int32} {a2 : Int32} {a3 : Int32} {r8 : (Int32 × mwM × mwL) → Option (mwM × mwL)} (hr8 : ∀ s, P s.2.1 s.2.2 → kq2 P (r8 s)) : ∀ n s, P s.2.2.1 s.2.2.2 → kq2 P (fX6_collectGroups_h47 fu a1 a2 a3 r8 n s) := by
  intro n
  induction n with
  | zero => intro s _; exact kqN2
  | succ n ih =>
    intro s h
    show kq2 P (fX6_collectGroups_i47 fu a1 a2 a3 r8 (fX6_collectGroups_h47 fu a1 a2 a3 r8 n) s.1 s.2.1 s.2.2.1 s.2.2.2)
    exact y_fX6_collectGroups_i47 hC hr8 ih h
theorem y_fX6_collectGroups_i8 {P : mwM → mwL → Prop} (hC : CPc2 P) {fu : Nat} {a1 : Int32} {a2 : Int32} {a3 : Int32} {r8 : (Int32 × mwM × mwL) → Option (mwM × mwL)} {v4 : Int32} (hr8 : ∀ s, P s.2.1 s.2.2 → kq2 P (r8 s)) {M : mwM} {L : mwL} (h : P M L) : kq2 P (fX6_collectGroups_i8 fu a1 a2 a3 r8 v4 M L) := by
  unfold fX6_collectGroups_i8
  exact (kqI2 (kqS2 h) (kqB32 (y_DX6_isOf hC h) (fun r4 M2 L3 h1 => (kqI2 (y_fX6_collectGroups_b115 hC hr8 h1) (kqK2 (fun q2 => (kqI2 (kqL2 (fun x9 => (y_fX6_collectGroups_h47 hC hr8 _ (v4, x9, M2, L3) h1))) (y_fX6_collectGroups_b115 hC hr8 h1))))))))
theorem y_fX6_collectGroups_h8 {P : mwM → mwL → Prop} (hC : CPc2 P) {fu : Nat} {a1 : Int32} {a2 : Int32} {a3 : Int32} : ∀ n s, P s.2.1 s.2.2 → kq2 P (fX6_collectGroups_h8 fu a1 a2 a3 n s) := by
  intro n
  induction n with
  | zero => intro s _; exact kqN2
  | succ n ih =>
    intro s h
    show kq2 P (fX6_collectGroups_i8 fu a1 a2 a3 (fX6_collectGroups_h8 fu a1 a2 a3 n) s.1 s.2.1 s.2.2)
    exact y_fX6_collectGroups_i8 hC ih h
theorem y_DX6_collectGroups {P : mwM → mwL → Prop} (hC : CPc2 P) {fu : Nat} {a1 : Int32} {a2 : Int32} {a3 : Int32} {M : mwM} {L : mwL} (h : P M L) : kq2 P (DX6_collectGroups fu a1 a2 a3 M L) := by
  unfold DX6_collectGroups
  exact (kqM2_c2 hC h (by omega) (fun M27 h1 => (y_fX6_collectGroups_h8 hC _ (0, M27, L) h1)))
theorem y_fX6_emptyFrames_i2 {P : mwM → mwL → Prop} (hC : CPc2 P) {fu : Nat} {r2 : (Int32 × mwM × mwL) → Option (mwM × mwL)} {v1 : Int32} (hr2 : ∀ s, P s.2.1 s.2.2 → kq2 P (r2 s)) {M : mwM} {L : mwL} (h : P M L) : kq2 P (fX6_emptyFrames_i2 fu r2 v1 M L) := by
  unfold fX6_emptyFrames_i2
  exact (kqI2 (kqS2 h) (kqK2 (fun q1 => (kqM2_c2 hC h (by omega) (fun M3 h2 => (kqL2 (fun x4 => (hr2 (x4, M3, L) h2))))))))
theorem y_fX6_emptyFrames_h2 {P : mwM → mwL → Prop} (hC : CPc2 P) {fu : Nat} : ∀ n s, P s.2.1 s.2.2 → kq2 P (fX6_emptyFrames_h2 fu n s) := by
  intro n
  induction n with
  | zero => intro s _; exact kqN2
  | succ n ih =>
    intro s h
    show kq2 P (fX6_emptyFrames_i2 fu (fX6_emptyFrames_h2 fu n) s.1 s.2.1 s.2.2)
    exact y_fX6_emptyFrames_i2 hC ih h
theorem y_DX6_emptyFrames {P : mwM → mwL → Prop} (hC : CPc2 P) {fu : Nat} {M : mwM} {L : mwL} (h : P M L) : kq2 P (DX6_emptyFrames fu M L) := by
  unfold DX6_emptyFrames
  exact (y_fX6_emptyFrames_h2 hC _ (0, M, L) h)
theorem y_fX6_fits_b121 {P : mwM → mwL → Prop} (hC : CPc2 P) {fu : Nat} {rs : Int32 → Int32 → Int32 → Int32 → mwM → mwL → Option (Int32 × mwM × mwL)} {a1 : Int32} {a2 : Int32} {a3 : Int32} {a4 : Int32} (hrs : ∀ a b c d M L, P M L → kq3 P (rs a b c d M L)) {M : mwM} {L : mwL} (h : P M L) : kq3 P (fX6_fits_b121 fu rs a1 a2 a3 a4 M L) := by
  unfold fX6_fits_b121
  exact (kqS3 h)
theorem y_fX6_fits_b115 {P : mwM → mwL → Prop} (hC : CPc2 P) {fu : Nat} {rs : Int32 → Int32 → Int32 → Int32 → mwM → mwL → Option (Int32 × mwM × mwL)} {a1 : Int32} {a2 : Int32} {a3 : Int32} {a4 : Int32} {r33 : (Int32 × Int32 × mwM × mwL) → Option (Int32 × mwM × mwL)} {v5 : Int32} {v6 : Int32} (hrs : ∀ a b c d M L, P M L → kq3 P (rs a b c d M L)) (hr33 : ∀ s, P s.2.2.1 s.2.2.2 → kq3 P (r33 s)) {M : mwM} {L : mwL} (h : P M L) : kq3 P (fX6_fits_b115 fu rs a1 a2 a3 a4 r33 v5 v6 M L) := by
  unfold fX6_fits_b115
  exact (kqL3 (fun x22 => (hr33 (v5, x22, M, L) h)))
theorem y_fX6_fits_i33 {P : mwM → mwL → Prop} (hC : CPc2 P) {fu : Nat} {rs : Int32 → Int32 → Int32 → Int32 → mwM → mwL → Option (Int32 × mwM × mwL)} {a1 : Int32} {a2 : Int32} {a3 : Int32} {a4 : Int32} {r33 : (Int32 × Int32 × mwM × mwL) → Option (Int32 × mwM × mwL)} {v5 : Int32} {v6 : Int32} (hrs : ∀ a b c d M L, P M L → kq3 P (rs a b c d M L)) (hr33 : ∀ s, P s.2.2.1 s.2.2.2 → kq3 P (r33 s)) {M : mwM} {L : mwL} (h : P M L) : kq3 P (fX6_fits_i33 fu rs a1 a2 a3 a4 r33 v5 v6 M L) := by
  unfold fX6_fits_i33
  exact (kqI3 (y_fX6_fits_b121 hC hrs h) (kqI3 (y_fX6_fits_b121 hC hrs h) (kqK3 (fun q1 => (kqI3 (y_fX6_fits_b115 hC hrs hr33 h) (kqK3 (fun q2 => (kqK3 (fun q3 => (kqM3_c2 hC h (by omega) (fun M12 h4 => (kqK3 (fun q5 => (kqM3_c2 hC h4 (by omega) (fun M14 h6 => (kqB33 (hrs _ _ _ _ _ _ h6) (fun r17 M15 L16 h7 => (kqI3 (kqK3 (fun q8 => (kqK3 (fun q9 => (kqM3_c2 hC h7 (by omega) (fun M21 h10 => (y_fX6_fits_b115 hC hrs hr33 h10))))))) (kqS3 h7)))))))))))))))))))
theorem y_fX6_fits_h33 {P : mwM → mwL → Prop} (hC : CPc2 P) {fu : Nat} {rs : Int32 → Int32 → Int32 → Int32 → mwM → mwL → Option (Int32 × mwM × mwL)} {a1 : Int32} {a2 : Int32} {a3 : Int32} {a4 : Int32} (hrs : ∀ a b c d M L, P M L → kq3 P (rs a b c d M L)) : ∀ n s, P s.2.2.1 s.2.2.2 → kq3 P (fX6_fits_h33 fu rs a1 a2 a3 a4 n s) := by
  intro n
  induction n with
  | zero => intro s _; exact kqN3
  | succ n ih =>
    intro s h
    show kq3 P (fX6_fits_i33 fu rs a1 a2 a3 a4 (fX6_fits_h33 fu rs a1 a2 a3 a4 n) s.1 s.2.1 s.2.2.1 s.2.2.2)
    exact y_fX6_fits_i33 hC hrs ih h
theorem y_fX6_fits_b8 {P : mwM → mwL → Prop} (hC : CPc2 P) {fu : Nat} {rs : Int32 → Int32 → Int32 → Int32 → mwM → mwL → Option (Int32 × mwM × mwL)} {a1 : Int32} {a2 : Int32} {a3 : Int32} {a4 : Int32} (hrs : ∀ a b c d M L, P M L → kq3 P (rs a b c d M L)) {M : mwM} {L : mwL} (h : P M L) : kq3 P (fX6_fits_b8 fu rs a1 a2 a3 a4 M L) := by
  unfold fX6_fits_b8
  exact (kqI3 (kqK3 (fun q1 => (kqB33 (y_DX6_octetsOf hC h) (fun r5 M3 L4 h2 => (y_fX6_fits_h33 hC hrs _ (r5, 0, M3, L4) h2))))) (kqS3 h))
theorem y_BX6_fits {P : mwM → mwL → Prop} (hC : CPc2 P) {fu : Nat} {rs : Int32 → Int32 → Int32 → Int32 → mwM → mwL → Option (Int32 × mwM × mwL)} {a1 : Int32} {a2 : Int32} {a3 : Int32} {a4 : Int32} (hrs : ∀ a b c d M L, P M L → kq3 P (rs a b c d M L)) {M : mwM} {L : mwL} (h : P M L) : kq3 P (BX6_fits fu rs a1 a2 a3 a4 M L) := by
  unfold BX6_fits
  exact (kqI3 (kqB23 (y_DX6_emptyFrames hC h) (fun M24 L25 h1 => (y_fX6_fits_b8 hC hrs h1))) (y_fX6_fits_b8 hC hrs h))
theorem y_DX6_fits {P : mwM → mwL → Prop} (hC : CPc2 P) {fu : Nat} : ∀ (dp : Nat) (a b c d : Int32) (M : mwM) (L : mwL), P M L → kq3 P (DX6_fits fu dp a b c d M L) := by
  intro dp
  induction dp with
  | zero => intro a b c d M L _; exact kqN3
  | succ dp ih => intro a b c d M L h; exact y_BX6_fits hC ih h
theorem y_fX6_packBest_i2 {P : mwM → mwL → Prop} (hC : CPc2 P) {fu : Nat} {a1 : Int32} {r2 : (Int32 × mwM × mwL) → Option (Int32 × mwM × mwL)} {v2 : Int32} (hr2 : ∀ s, P s.2.1 s.2.2 → kq3 P (r2 s)) {M : mwM} {L : mwL} (h : P M L) : kq3 P (fX6_packBest_i2 fu a1 r2 v2 M L) := by
  unfold fX6_packBest_i2
  exact (kqI3 (kqB33 (y_DX6_fits hC _ _ _ _ _ _ _ h) (fun r4 M2 L3 h1 => (kqS3 h1))) (kqB33 (y_DX6_fits hC _ _ _ _ _ _ _ h) (fun r7 M5 L6 h2 => (kqI3 (kqL3 (fun x9 => (hr2 (x9, M5, L6) h2))) (kqS3 h2)))))
theorem y_fX6_packBest_h2 {P : mwM → mwL → Prop} (hC : CPc2 P) {fu : Nat} {a1 : Int32} : ∀ n s, P s.2.1 s.2.2 → kq3 P (fX6_packBest_h2 fu a1 n s) := by
  intro n
  induction n with
  | zero => intro s _; exact kqN3
  | succ n ih =>
    intro s h
    show kq3 P (fX6_packBest_i2 fu a1 (fX6_packBest_h2 fu a1 n) s.1 s.2.1 s.2.2)
    exact y_fX6_packBest_i2 hC ih h
theorem y_DX6_packBest {P : mwM → mwL → Prop} (hC : CPc2 P) {fu : Nat} {a1 : Int32} {M : mwM} {L : mwL} (h : P M L) : kq3 P (DX6_packBest fu a1 M L) := by
  unfold DX6_packBest
  exact (y_fX6_packBest_h2 hC _ (1, M, L) h)
theorem y_fX6_packFirstFit_b57 {P : mwM → mwL → Prop} (hC : CPc2 P) {fu : Nat} {a1 : Int32} {r8 : (Int32 × Int32 × mwM × mwL) → Option (Int32 × mwM × mwL)} {v2 : Int32} {v3 : Int32} {v4 : Int32} {v5 : Int32} (hr8 : ∀ s, P s.2.2.1 s.2.2.2 → kq3 P (r8 s)) {M : mwM} {L : mwL} (h : P M L) : kq3 P (fX6_packFirstFit_b57 fu a1 r8 v2 v3 v4 v5 M L) := by
  unfold fX6_packFirstFit_b57
  exact (kqK3 (fun q1 => (kqK3 (fun q2 => (kqM3_c2 hC h (by omega) (fun M12 h3 => (kqK3 (fun q4 => (kqM3_c2 hC h3 (by omega) (fun M14 h5 => (kqL3 (fun x15 => (kqL3 (fun x16 => (hr8 (x15, x16, M14, L) h5)))))))))))))))
theorem y_fX6_packFirstFit_i31 {P : mwM → mwL → Prop} (hC : CPc2 P) {fu : Nat} {a1 : Int32} {r8 : (Int32 × Int32 × mwM × mwL) → Option (Int32 × mwM × mwL)} {r31 : (Int32 × Int32 × Int32 × Int32 × mwM × mwL) → Option (Int32 × mwM × mwL)} {v2 : Int32} {v3 : Int32} {v4 : Int32} {v5 : Int32} (hr8 : ∀ s, P s.2.2.1 s.2.2.2 → kq3 P (r8 s)) (hr31 : ∀ s, P s.2.2.2.2.1 s.2.2.2.2.2 → kq3 P (r31 s)) {M : mwM} {L : mwL} (h : P M L) : kq3 P (fX6_packFirstFit_i31 fu a1 r8 r31 v2 v3 v4 v5 M L) := by
  unfold fX6_packFirstFit_i31
  exact (kqI3 (y_fX6_packFirstFit_b57 hC hr8 h) (kqK3 (fun q1 => (kqI3 (y_fX6_packFirstFit_b57 hC hr8 h) (kqL3 (fun x9 => (hr31 (v2, v3, v4, x9, M, L) h)))))))
theorem y_fX6_packFirstFit_h31 {P : mwM → mwL → Prop} (hC : CPc2 P) {fu : Nat} {a1 : Int32} {r8 : (Int32 × Int32 × mwM × mwL) → Option (Int32 × mwM × mwL)} (hr8 : ∀ s, P s.2.2.1 s.2.2.2 → kq3 P (r8 s)) : ∀ n s, P s.2.2.2.2.1 s.2.2.2.2.2 → kq3 P (fX6_packFirstFit_h31 fu a1 r8 n s) := by
  intro n
  induction n with
  | zero => intro s _; exact kqN3
  | succ n ih =>
    intro s h
    show kq3 P (fX6_packFirstFit_i31 fu a1 r8 (fX6_packFirstFit_h31 fu a1 r8 n) s.1 s.2.1 s.2.2.1 s.2.2.2.1 s.2.2.2.2.1 s.2.2.2.2.2)
    exact y_fX6_packFirstFit_i31 hC hr8 ih h
theorem y_fX6_packFirstFit_i8 {P : mwM → mwL → Prop} (hC : CPc2 P) {fu : Nat} {a1 : Int32} {r8 : (Int32 × Int32 × mwM × mwL) → Option (Int32 × mwM × mwL)} {v2 : Int32} {v3 : Int32} (hr8 : ∀ s, P s.2.2.1 s.2.2.2 → kq3 P (r8 s)) {M : mwM} {L : mwL} (h : P M L) : kq3 P (fX6_packFirstFit_i8 fu a1 r8 v2 v3 M L) := by
  unfold fX6_packFirstFit_i8
  exact (kqI3 (kqS3 h) (kqK3 (fun q1 => (kqB33 (y_DX6_octetsOf hC h) (fun r5 M3 L4 h2 => (y_fX6_packFirstFit_h31 hC hr8 _ (v2, v3, r5, 0, M3, L4) h2))))))
theorem y_fX6_packFirstFit_h8 {P : mwM → mwL → Prop} (hC : CPc2 P) {fu : Nat} {a1 : Int32} : ∀ n s, P s.2.2.1 s.2.2.2 → kq3 P (fX6_packFirstFit_h8 fu a1 n s) := by
  intro n
  induction n with
  | zero => intro s _; exact kqN3
  | succ n ih =>
    intro s h
    show kq3 P (fX6_packFirstFit_i8 fu a1 (fX6_packFirstFit_h8 fu a1 n) s.1 s.2.1 s.2.2.1 s.2.2.2)
    exact y_fX6_packFirstFit_i8 hC ih h
theorem y_DX6_packFirstFit {P : mwM → mwL → Prop} (hC : CPc2 P) {fu : Nat} {a1 : Int32} {M : mwM} {L : mwL} (h : P M L) : kq3 P (DX6_packFirstFit fu a1 M L) := by
  unfold DX6_packFirstFit
  exact (kqB23 (y_DX6_emptyFrames hC h) (fun M17 L18 h1 => (y_fX6_packFirstFit_h8 hC _ (0, 0, M17, L18) h1)))
theorem y_fX6_openFrame_i91 {P : mwM → mwL → Prop} (hC : CPc2 P) {fu : Nat} {a1 : Int32} {r91 : (Int32 × mwM × mwL) → Option (mwM × mwL)} {v2 : Int32} (hr91 : ∀ s, P s.2.1 s.2.2 → kq2 P (r91 s)) {M : mwM} {L : mwL} (h : P M L) : kq2 P (fX6_openFrame_i91 fu a1 r91 v2 M L) := by
  unfold fX6_openFrame_i91
  exact (kqI2 (kqM2_c2 hC h (by omega) (fun M2 h1 => (kqS2 h1))) (kqK2 (fun q2 => (kqK2 (fun q3 => (kqM2_c2 hC h (by omega) (fun M5 h4 => (kqL2 (fun x6 => (hr91 (x6, M5, L) h4))))))))))
theorem y_fX6_openFrame_h91 {P : mwM → mwL → Prop} (hC : CPc2 P) {fu : Nat} {a1 : Int32} : ∀ n s, P s.2.1 s.2.2 → kq2 P (fX6_openFrame_h91 fu a1 n s) := by
  intro n
  induction n with
  | zero => intro s _; exact kqN2
  | succ n ih =>
    intro s h
    show kq2 P (fX6_openFrame_i91 fu a1 (fX6_openFrame_h91 fu a1 n) s.1 s.2.1 s.2.2)
    exact y_fX6_openFrame_i91 hC ih h
theorem y_DX6_openFrame {P : mwM → mwL → Prop} (hC : CPc2 P) {fu : Nat} {a1 : Int32} {M : mwM} {L : mwL} (h : P M L) : kq2 P (DX6_openFrame fu a1 M L) := by
  unfold DX6_openFrame
  exact (kqK2 (fun q1 => (kqK2 (fun q2 => (kqM2_c2 hC h (by omega) (fun M11 h3 => (kqK2 (fun q4 => (kqK2 (fun q5 => (kqM2_c2 hC h3 (by omega) (fun M16 h6 => (kqK2 (fun q7 => (kqK2 (fun q8 => (kqM2_c2 hC h6 (by omega) (fun M21 h9 => (kqK2 (fun q10 => (kqK2 (fun q11 => (kqM2_c2 hC h9 (by omega) (fun M26 h12 => (kqK2 (fun q13 => (kqM2_c2 hC h12 (by omega) (fun M29 h14 => (y_fX6_openFrame_h91 hC _ (0, M29, L) h14)))))))))))))))))))))))))))))
theorem y_fX6_placeGroups_i88 {P : mwM → mwL → Prop} (hC : CPc2 P) {fu : Nat} {a1 : Int32} {r88 : (Int32 × mwM × mwL) → Option (mwM × mwL)} {v2 : Int32} (hr88 : ∀ s, P s.2.1 s.2.2 → kq2 P (r88 s)) {M : mwM} {L : mwL} (h : P M L) : kq2 P (fX6_placeGroups_i88 fu a1 r88 v2 M L) := by
  unfold fX6_placeGroups_i88
  exact (kqI2 (kqS2 h) (kqB22 (y_DX6_openFrame hC h) (fun M23 L24 h1 => (kqL2 (fun x25 => (hr88 (x25, M23, L24) h1))))))
theorem y_fX6_placeGroups_h88 {P : mwM → mwL → Prop} (hC : CPc2 P) {fu : Nat} {a1 : Int32} : ∀ n s, P s.2.1 s.2.2 → kq2 P (fX6_placeGroups_h88 fu a1 n s) := by
  intro n
  induction n with
  | zero => intro s _; exact kqN2
  | succ n ih =>
    intro s h
    show kq2 P (fX6_placeGroups_i88 fu a1 (fX6_placeGroups_h88 fu a1 n) s.1 s.2.1 s.2.2)
    exact y_fX6_placeGroups_i88 hC ih h
theorem y_fX6_placeGroups_i6 {P : mwM → mwL → Prop} (hC : CPc2 P) {fu : Nat} {a1 : Int32} {r6 : (Int32 × mwM × mwL) → Option (mwM × mwL)} {v2 : Int32} (hr6 : ∀ s, P s.2.1 s.2.2 → kq2 P (r6 s)) {M : mwM} {L : mwL} (h : P M L) : kq2 P (fX6_placeGroups_i6 fu a1 r6 v2 M L) := by
  unfold fX6_placeGroups_i6
  exact (kqI2 (y_fX6_placeGroups_h88 hC _ (0, M, L) h) (kqK2 (fun q1 => (kqL2 (fun x3 => (kqK2 (fun q2 => (kqK2 (fun q3 => (kqM2_c2 hC h (by omega) (fun M7 h4 => (kqK2 (fun q5 => (kqK2 (fun q6 => (kqK2 (fun q7 => (kqM2_c2 hC h4 (by omega) (fun M12 h8 => (kqK2 (fun q9 => (kqK2 (fun q10 => (kqB32 (y_DX6_octetsOf hC h8) (fun r17 M15 L16 h11 => (kqK2 (fun q12 => (kqM2_c2 hC h11 (by omega) (fun M19 h13 => (kqL2 (fun x20 => (hr6 (x20, M19, L16) h13))))))))))))))))))))))))))))))))
theorem y_fX6_placeGroups_h6 {P : mwM → mwL → Prop} (hC : CPc2 P) {fu : Nat} {a1 : Int32} : ∀ n s, P s.2.1 s.2.2 → kq2 P (fX6_placeGroups_h6 fu a1 n s) := by
  intro n
  induction n with
  | zero => intro s _; exact kqN2
  | succ n ih =>
    intro s h
    show kq2 P (fX6_placeGroups_i6 fu a1 (fX6_placeGroups_h6 fu a1 n) s.1 s.2.1 s.2.2)
    exact y_fX6_placeGroups_i6 hC ih h
theorem y_DX6_placeGroups {P : mwM → mwL → Prop} (hC : CPc2 P) {fu : Nat} {a1 : Int32} {M : mwM} {L : mwL} (h : P M L) : kq2 P (DX6_placeGroups fu a1 M L) := by
  unfold DX6_placeGroups
  exact (kqB22 (y_DX6_emptyFrames hC h) (fun M26 L27 h1 => (y_fX6_placeGroups_h6 hC _ (0, M26, L27) h1)))
theorem y_fX6_packGroups_b23 {P : mwM → mwL → Prop} (hC : CPc2 P) {fu : Nat} {a1 : Int32} {s1 : Int32} {M : mwM} {L : mwL} (h : P M L) : kq2 P (fX6_packGroups_b23 fu a1 s1 M L) := by
  unfold fX6_packGroups_b23
  exact (kqB22 (y_DX6_placeGroups hC h) (fun M1 L2 h1 => (kqS2 h1)))
theorem y_DX6_packGroups {P : mwM → mwL → Prop} (hC : CPc2 P) {fu : Nat} {a1 : Int32} {M : mwM} {L : mwL} (h : P M L) : kq2 P (DX6_packGroups fu a1 M L) := by
  unfold DX6_packGroups
  exact (kqI2 (kqB32 (y_DX6_packFirstFit hC h) (fun r6 M4 L5 h1 => (y_fX6_packGroups_b23 hC h1))) (kqB32 (y_DX6_packBest hC h) (fun r9 M7 L8 h2 => (y_fX6_packGroups_b23 hC h2))))
theorem y_fX6_packOf_b59 {P : mwM → mwL → Prop} (hC : CPc2 P) {fu : Nat} {a1 : Int32} {a2 : Int32} {M : mwM} {L : mwL} (h : P M L) : kq2 P (fX6_packOf_b59 fu a1 a2 M L) := by
  unfold fX6_packOf_b59
  exact (kqS2 h)
theorem y_fX6_packOf_b42 {P : mwM → mwL → Prop} (hC : CPc2 P) {fu : Nat} {a1 : Int32} {a2 : Int32} {r11 : (Int32 × Int32 × mwM × mwL) → Option (mwM × mwL)} {v3 : Int32} {v4 : Int32} {s1 : Int32} (hr11 : ∀ s, P s.2.2.1 s.2.2.2 → kq2 P (r11 s)) {M : mwM} {L : mwL} (h : P M L) : kq2 P (fX6_packOf_b42 fu a1 a2 r11 v3 v4 s1 M L) := by
  unfold fX6_packOf_b42
  exact (kqB22 (y_DX6_packGroups hC h) (fun M6 L7 h1 => (kqB32 (y_DX6_nextPeriod hC h1) (fun r10 M8 L9 h2 => (kqL2 (fun x11 => (hr11 (r10, x11, M8, L9) h2)))))))
theorem y_fX6_packOf_i11 {P : mwM → mwL → Prop} (hC : CPc2 P) {fu : Nat} {a1 : Int32} {a2 : Int32} {r11 : (Int32 × Int32 × mwM × mwL) → Option (mwM × mwL)} {v3 : Int32} {v4 : Int32} (hr11 : ∀ s, P s.2.2.1 s.2.2.2 → kq2 P (r11 s)) {M : mwM} {L : mwL} (h : P M L) : kq2 P (fX6_packOf_i11 fu a1 a2 r11 v3 v4 M L) := by
  unfold fX6_packOf_i11
  exact (kqI2 (y_fX6_packOf_b59 hC h) (kqI2 (y_fX6_packOf_b59 hC h) (kqB22 (y_DX6_collectGroups hC h) (fun M3 L4 h1 => (kqI2 (y_fX6_packOf_b42 hC hr11 h1) (y_fX6_packOf_b42 hC hr11 h1))))))
theorem y_fX6_packOf_h11 {P : mwM → mwL → Prop} (hC : CPc2 P) {fu : Nat} {a1 : Int32} {a2 : Int32} : ∀ n s, P s.2.2.1 s.2.2.2 → kq2 P (fX6_packOf_h11 fu a1 a2 n s) := by
  intro n
  induction n with
  | zero => intro s _; exact kqN2
  | succ n ih =>
    intro s h
    show kq2 P (fX6_packOf_i11 fu a1 a2 (fX6_packOf_h11 fu a1 a2 n) s.1 s.2.1 s.2.2.1 s.2.2.2)
    exact y_fX6_packOf_i11 hC ih h
theorem y_DX6_packOf {P : mwM → mwL → Prop} (hC : CPc2 P) {fu : Nat} {a1 : Int32} {a2 : Int32} {M : mwM} {L : mwL} (h : P M L) : kq2 P (DX6_packOf fu a1 a2 M L) := by
  unfold DX6_packOf
  exact (kqB32 (y_DX6_nextPeriod hC h) (fun r14 M12 L13 h1 => (y_fX6_packOf_h11 hC _ (r14, 0, M12, L13) h1)))
theorem y_fX6_findPositions_b83 {P : mwM → mwL → Prop} (hC : CPc2 P) {fu : Nat} {r2 : (Int32 × mwM × mwL) → Option (mwM × mwL)} {r14 : (Int32 × Int32 × Int32 × mwM × mwL) → Option (mwM × mwL)} {v1 : Int32} {v3 : Int32} {s0 : Int32} {s1 : Int32} (hr2 : ∀ s, P s.2.1 s.2.2 → kq2 P (r2 s)) (hr14 : ∀ s, P s.2.2.2.1 s.2.2.2.2 → kq2 P (r14 s)) {M : mwM} {L : mwL} (h : P M L) : kq2 P (fX6_findPositions_b83 fu r2 r14 v1 v3 s0 s1 M L) := by
  unfold fX6_findPositions_b83
  exact (kqL2 (fun x21 => (kqL2 (fun x22 => (hr14 (v1, x21, x22, M, L) h)))))
theorem y_fX6_findPositions_b78 {P : mwM → mwL → Prop} (hC : CPc2 P) {fu : Nat} {r2 : (Int32 × mwM × mwL) → Option (mwM × mwL)} {r14 : (Int32 × Int32 × Int32 × mwM × mwL) → Option (mwM × mwL)} {v1 : Int32} {v3 : Int32} {s0 : Int32} (hr2 : ∀ s, P s.2.1 s.2.2 → kq2 P (r2 s)) (hr14 : ∀ s, P s.2.2.2.1 s.2.2.2.2 → kq2 P (r14 s)) {M : mwM} {L : mwL} (h : P M L) : kq2 P (fX6_findPositions_b78 fu r2 r14 v1 v3 s0 M L) := by
  unfold fX6_findPositions_b78
  exact (y_fX6_findPositions_b83 hC hr2 hr14 h)
theorem y_fX6_findPositions_b51 {P : mwM → mwL → Prop} (hC : CPc2 P) {fu : Nat} {r2 : (Int32 × mwM × mwL) → Option (mwM × mwL)} {r14 : (Int32 × Int32 × Int32 × mwM × mwL) → Option (mwM × mwL)} {v1 : Int32} {v2 : Int32} {v3 : Int32} {s0 : Int32} (hr2 : ∀ s, P s.2.1 s.2.2 → kq2 P (r2 s)) (hr14 : ∀ s, P s.2.2.2.1 s.2.2.2.2 → kq2 P (r14 s)) {M : mwM} {L : mwL} (h : P M L) : kq2 P (fX6_findPositions_b51 fu r2 r14 v1 v2 v3 s0 M L) := by
  unfold fX6_findPositions_b51
  exact (kqI2 (kqK2 (fun q1 => (kqK2 (fun q2 => (kqI2 (y_fX6_findPositions_b83 hC hr2 hr14 h) (y_fX6_findPositions_b78 hC hr2 hr14 h)))))) (y_fX6_findPositions_b78 hC hr2 hr14 h))
theorem y_fX6_findPositions_b50 {P : mwM → mwL → Prop} (hC : CPc2 P) {fu : Nat} {r2 : (Int32 × mwM × mwL) → Option (mwM × mwL)} {r14 : (Int32 × Int32 × Int32 × mwM × mwL) → Option (mwM × mwL)} {v1 : Int32} {v2 : Int32} {v3 : Int32} (hr2 : ∀ s, P s.2.1 s.2.2 → kq2 P (r2 s)) (hr14 : ∀ s, P s.2.2.2.1 s.2.2.2.2 → kq2 P (r14 s)) {M : mwM} {L : mwL} (h : P M L) : kq2 P (fX6_findPositions_b50 fu r2 r14 v1 v2 v3 M L) := by
  unfold fX6_findPositions_b50
  exact (y_fX6_findPositions_b51 hC hr2 hr14 h)
theorem y_fX6_findPositions_i14 {P : mwM → mwL → Prop} (hC : CPc2 P) {fu : Nat} {r2 : (Int32 × mwM × mwL) → Option (mwM × mwL)} {r14 : (Int32 × Int32 × Int32 × mwM × mwL) → Option (mwM × mwL)} {v1 : Int32} {v2 : Int32} {v3 : Int32} (hr2 : ∀ s, P s.2.1 s.2.2 → kq2 P (r2 s)) (hr14 : ∀ s, P s.2.2.2.1 s.2.2.2.2 → kq2 P (r14 s)) {M : mwM} {L : mwL} (h : P M L) : kq2 P (fX6_findPositions_i14 fu r2 r14 v1 v2 v3 M L) := by
  unfold fX6_findPositions_i14
  exact (kqI2 (kqK2 (fun q1 => (kqM2_c2 hC h (by omega) (fun M5 h2 => (kqK2 (fun q3 => (kqM2_c2 hC h2 (by omega) (fun M7 h4 => (kqL2 (fun x8 => (hr2 (x8, M7, L) h4))))))))))) (kqK2 (fun q5 => (kqK2 (fun q6 => (kqI2 (kqI2 (y_fX6_findPositions_b50 hC hr2 hr14 h) (y_fX6_findPositions_b51 hC hr2 hr14 h)) (y_fX6_findPositions_b50 hC hr2 hr14 h)))))))
theorem y_fX6_findPositions_h14 {P : mwM → mwL → Prop} (hC : CPc2 P) {fu : Nat} {r2 : (Int32 × mwM × mwL) → Option (mwM × mwL)} (hr2 : ∀ s, P s.2.1 s.2.2 → kq2 P (r2 s)) : ∀ n s, P s.2.2.2.1 s.2.2.2.2 → kq2 P (fX6_findPositions_h14 fu r2 n s) := by
  intro n
  induction n with
  | zero => intro s _; exact kqN2
  | succ n ih =>
    intro s h
    show kq2 P (fX6_findPositions_i14 fu r2 (fX6_findPositions_h14 fu r2 n) s.1 s.2.1 s.2.2.1 s.2.2.2.1 s.2.2.2.2)
    exact y_fX6_findPositions_i14 hC hr2 ih h
theorem y_fX6_findPositions_i2 {P : mwM → mwL → Prop} (hC : CPc2 P) {fu : Nat} {r2 : (Int32 × mwM × mwL) → Option (mwM × mwL)} {v1 : Int32} (hr2 : ∀ s, P s.2.1 s.2.2 → kq2 P (r2 s)) {M : mwM} {L : mwL} (h : P M L) : kq2 P (fX6_findPositions_i2 fu r2 v1 M L) := by
  unfold fX6_findPositions_i2
  exact (kqI2 (kqS2 h) (y_fX6_findPositions_h14 hC hr2 _ (v1, 0, 0, M, L) h))
theorem y_fX6_findPositions_h2 {P : mwM → mwL → Prop} (hC : CPc2 P) {fu : Nat} : ∀ n s, P s.2.1 s.2.2 → kq2 P (fX6_findPositions_h2 fu n s) := by
  intro n
  induction n with
  | zero => intro s _; exact kqN2
  | succ n ih =>
    intro s h
    show kq2 P (fX6_findPositions_i2 fu (fX6_findPositions_h2 fu n) s.1 s.2.1 s.2.2)
    exact y_fX6_findPositions_i2 hC ih h
theorem y_DX6_findPositions {P : mwM → mwL → Prop} (hC : CPc2 P) {fu : Nat} {M : mwM} {L : mwL} (h : P M L) : kq2 P (DX6_findPositions fu M L) := by
  unfold DX6_findPositions
  exact (y_fX6_findPositions_h2 hC _ (0, M, L) h)
theorem y_fX6_findSoonest_i8 {P : mwM → mwL → Prop} (hC : CPc2 P) {fu : Nat} {r8 : (Int32 × mwM × mwL) → Option (mwM × mwL)} {v1 : Int32} (hr8 : ∀ s, P s.2.1 s.2.2 → kq2 P (r8 s)) {M : mwM} {L : mwL} (h : P M L) : kq2 P (fX6_findSoonest_i8 fu r8 v1 M L) := by
  unfold fX6_findSoonest_i8
  exact (kqI2 (kqS2 h) (kqK2 (fun q1 => (kqM2_c2 hC h (by omega) (fun M4 h2 => (kqL2 (fun x5 => (hr8 (x5, M4, L) h2))))))))
theorem y_fX6_findSoonest_h8 {P : mwM → mwL → Prop} (hC : CPc2 P) {fu : Nat} : ∀ n s, P s.2.1 s.2.2 → kq2 P (fX6_findSoonest_h8 fu n s) := by
  intro n
  induction n with
  | zero => intro s _; exact kqN2
  | succ n ih =>
    intro s h
    show kq2 P (fX6_findSoonest_i8 fu (fX6_findSoonest_h8 fu n) s.1 s.2.1 s.2.2)
    exact y_fX6_findSoonest_i8 hC ih h
theorem y_DX6_findSoonest {P : mwM → mwL → Prop} (hC : CPc2 P) {fu : Nat} {M : mwM} {L : mwL} (h : P M L) : kq2 P (DX6_findSoonest fu M L) := by
  unfold DX6_findSoonest
  exact (kqM2_c2 hC h (by omega) (fun M6 h1 => (y_fX6_findSoonest_h8 hC _ (0, M6, L) h1)))
theorem y_fX6_pack_i47 {P : mwM → mwL → Prop} (hC : CPc2 P) {fu : Nat} {a1 : Int32} {r47 : (Int32 × mwM × mwL) → Option (mwM × mwL)} {v2 : Int32} (hr47 : ∀ s, P s.2.1 s.2.2 → kq2 P (r47 s)) {M : mwM} {L : mwL} (h : P M L) : kq2 P (fX6_pack_i47 fu a1 r47 v2 M L) := by
  unfold fX6_pack_i47
  exact (kqI2 (kqB22 (y_DX6_findPositions hC h) (fun M14 L15 h1 => (kqB22 (y_DX6_findSoonest hC h1) (fun M16 L17 h2 => (kqS2 h2))))) (kqB22 (y_DX6_packOf hC h) (fun M18 L19 h3 => (kqB22 (y_DX6_packOf hC h3) (fun M20 L21 h4 => (kqL2 (fun x22 => (hr47 (x22, M20, L21) h4))))))))
theorem y_fX6_pack_h47 {P : mwM → mwL → Prop} (hC : CPc2 P) {fu : Nat} {a1 : Int32} : ∀ n s, P s.2.1 s.2.2 → kq2 P (fX6_pack_h47 fu a1 n s) := by
  intro n
  induction n with
  | zero => intro s _; exact kqN2
  | succ n ih =>
    intro s h
    show kq2 P (fX6_pack_i47 fu a1 (fX6_pack_h47 fu a1 n) s.1 s.2.1 s.2.2)
    exact y_fX6_pack_i47 hC ih h
theorem y_fX6_pack_i2 {P : mwM → mwL → Prop} (hC : CPc2 P) {fu : Nat} {a1 : Int32} {r2 : (Int32 × mwM × mwL) → Option (mwM × mwL)} {v2 : Int32} (hr2 : ∀ s, P s.2.1 s.2.2 → kq2 P (r2 s)) {M : mwM} {L : mwL} (h : P M L) : kq2 P (fX6_pack_i2 fu a1 r2 v2 M L) := by
  unfold fX6_pack_i2
  exact (kqI2 (y_fX6_pack_h47 hC _ (0, M, L) h) (kqK2 (fun q1 => (kqK2 (fun q2 => (kqB32 (y_DX6_keyOf hC h) (fun r9 M7 L8 h3 => (kqK2 (fun q4 => (kqM2_c2 hC h3 (by omega) (fun M11 h5 => (kqL2 (fun x12 => (hr2 (x12, M11, L8) h5))))))))))))))
theorem y_fX6_pack_h2 {P : mwM → mwL → Prop} (hC : CPc2 P) {fu : Nat} {a1 : Int32} : ∀ n s, P s.2.1 s.2.2 → kq2 P (fX6_pack_h2 fu a1 n s) := by
  intro n
  induction n with
  | zero => intro s _; exact kqN2
  | succ n ih =>
    intro s h
    show kq2 P (fX6_pack_i2 fu a1 (fX6_pack_h2 fu a1 n) s.1 s.2.1 s.2.2)
    exact y_fX6_pack_i2 hC ih h
theorem y_DX6_pack {P : mwM → mwL → Prop} (hC : CPc2 P) {fu : Nat} {a1 : Int32} {M : mwM} {L : mwL} (h : P M L) : kq2 P (DX6_pack fu a1 M L) := by
  unfold DX6_pack
  exact (y_fX6_pack_h2 hC _ (0, M, L) h)
theorem y_DX6_identifierOf {P : mwM → mwL → Prop} (hC : CPc2 P) {fu : Nat} {a1 : Int32} {M : mwM} {L : mwL} (h : P M L) : kq3 P (DX6_identifierOf fu a1 M L) := by
  unfold DX6_identifierOf
  exact (kqK3 (fun q1 => (kqS3 h)))
theorem y_fX6_frameOf_b29 {P : mwM → mwL → Prop} (hC : CPc2 P) {fu : Nat} {a1 : Int32} {M : mwM} {L : mwL} (h : P M L) : kq3 P (fX6_frameOf_b29 fu a1 M L) := by
  unfold fX6_frameOf_b29
  exact (kqS3 h)
theorem y_DX6_frameOf {P : mwM → mwL → Prop} (hC : CPc2 P) {fu : Nat} {a1 : Int32} {M : mwM} {L : mwL} (h : P M L) : kq3 P (DX6_frameOf fu a1 M L) := by
  unfold DX6_frameOf
  exact (kqL3 (fun x2 => (kqI3 (y_fX6_frameOf_b29 hC h) (kqI3 (kqI3 (kqK3 (fun q1 => (kqS3 h))) (y_fX6_frameOf_b29 hC h)) (y_fX6_frameOf_b29 hC h)))))
theorem y_fX6_isIn_b18 {P : mwM → mwL → Prop} (hC : CPc2 P) {fu : Nat} {a1 : Int32} {a2 : Int32} {s0 : Int32} {M : mwM} {L : mwL} (h : P M L) : kq3 P (fX6_isIn_b18 fu a1 a2 s0 M L) := by
  unfold fX6_isIn_b18
  exact (kq_mzz3 (kqS3 h))
theorem y_DX6_isIn {P : mwM → mwL → Prop} (hC : CPc2 P) {fu : Nat} {a1 : Int32} {a2 : Int32} {M : mwM} {L : mwL} (h : P M L) : kq3 P (DX6_isIn fu a1 a2 M L) := by
  unfold DX6_isIn
  exact (kqK3 (fun q1 => (kqI3 (y_fX6_isIn_b18 hC h) (y_fX6_isIn_b18 hC h))))
theorem y_DX6_takeTurn {P : mwM → mwL → Prop} (hC : CPc2 P) {fu : Nat} {a1 : Int32} {a2 : Int32} {M : mwM} {L : mwL} (h : P M L) : kq3 P (DX6_takeTurn fu a1 a2 M L) := by
  unfold DX6_takeTurn
  exact (kqK3 (fun q1 => (kqI3 (kqK3 (fun q2 => (kqK3 (fun q3 => (kqK3 (fun q4 => (kqM3_c2 hC h (by omega) (fun M9 h5 => (kqS3 h5))))))))) (kqS3 h))))
theorem y_fX6_placeOf_b34 {P : mwM → mwL → Prop} (hC : CPc2 P) {fu : Nat} {a1 : Int32} {a2 : Int32} {s0 : Int32} {s1 : Int32} {M : mwM} {L : mwL} (h : P M L) : kq3 P (fX6_placeOf_b34 fu a1 a2 s0 s1 M L) := by
  unfold fX6_placeOf_b34
  exact (kqS3 h)
theorem y_DX6_placeOf {P : mwM → mwL → Prop} (hC : CPc2 P) {fu : Nat} {a1 : Int32} {a2 : Int32} {M : mwM} {L : mwL} (h : P M L) : kq3 P (DX6_placeOf fu a1 a2 M L) := by
  unfold DX6_placeOf
  exact (kqK3 (fun q1 => (kqK3 (fun q2 => (kqI3 (kqB33 (y_DX6_octetsOf hC h) (fun r8 M6 L7 h3 => (y_fX6_placeOf_b34 hC h3))) (y_fX6_placeOf_b34 hC h))))))
theorem y_fX6_cutTo_b17 {P : mwM → mwL → Prop} (hC : CPc2 P) {fu : Nat} {a1 : Int32} {a2 : Int64} {s0 : Int64} {M : mwM} {L : mwL} (h : P M L) : kq3 P (fX6_cutTo_b17 fu a1 a2 s0 M L) := by
  unfold fX6_cutTo_b17
  exact (kqS3 h)
theorem y_DX6_cutTo {P : mwM → mwL → Prop} (hC : CPc2 P) {fu : Nat} {a1 : Int32} {a2 : Int64} {M : mwM} {L : mwL} (h : P M L) : kq3 P (DX6_cutTo fu a1 a2 M L) := by
  unfold DX6_cutTo
  exact (kqI3 (y_fX6_cutTo_b17 hC h) (y_fX6_cutTo_b17 hC h))
theorem y_fX6_fill_b139 {P : mwM → mwL → Prop} (hC : CPc2 P) {fu : Nat} {a1 : Int32} {r38 : (Int32 × mwM × mwL) → Option (mwM × mwL)} {v3 : Int32} (hr38 : ∀ s, P s.2.1 s.2.2 → kq2 P (r38 s)) {M : mwM} {L : mwL} (h : P M L) : kq2 P (fX6_fill_b139 fu a1 r38 v3 M L) := by
  unfold fX6_fill_b139
  exact (kqL2 (fun x30 => (hr38 (x30, M, L) h)))
theorem y_fX6_fill_i98 {P : mwM → mwL → Prop} (hC : CPc2 P) {fu : Nat} {a1 : Int32} {r38 : (Int32 × mwM × mwL) → Option (mwM × mwL)} {r98 : (Int32 × Int64 × Int32 × mwM × mwL) → Option (mwM × mwL)} {v3 : Int32} {v4 : Int64} {v6 : Int32} (hr38 : ∀ s, P s.2.1 s.2.2 → kq2 P (r38 s)) (hr98 : ∀ s, P s.2.2.2.1 s.2.2.2.2 → kq2 P (r98 s)) {M : mwM} {L : mwL} (h : P M L) : kq2 P (fX6_fill_i98 fu a1 r38 r98 v3 v4 v6 M L) := by
  unfold fX6_fill_i98
  exact (kqB32 (y_DX6_octetsOf hC h) (fun r22 M20 L21 h1 => (kqI2 (y_fX6_fill_b139 hC hr38 h1) (kqB32 (y_DX6_placeOf hC h1) (fun r26 M24 L25 h2 => (kqK2 (fun q3 => (kqM2_c2 hC h2 (by omega) (fun M28 h4 => (kqL2 (fun x29 => (hr98 (v3, v4, x29, M28, L25) h4))))))))))))
theorem y_fX6_fill_h98 {P : mwM → mwL → Prop} (hC : CPc2 P) {fu : Nat} {a1 : Int32} {r38 : (Int32 × mwM × mwL) → Option (mwM × mwL)} (hr38 : ∀ s, P s.2.1 s.2.2 → kq2 P (r38 s)) : ∀ n s, P s.2.2.2.1 s.2.2.2.2 → kq2 P (fX6_fill_h98 fu a1 r38 n s) := by
  intro n
  induction n with
  | zero => intro s _; exact kqN2
  | succ n ih =>
    intro s h
    show kq2 P (fX6_fill_i98 fu a1 r38 (fX6_fill_h98 fu a1 r38 n) s.1 s.2.1 s.2.2.1 s.2.2.2.1 s.2.2.2.2)
    exact y_fX6_fill_i98 hC hr38 ih h
theorem y_fX6_fill_i38 {P : mwM → mwL → Prop} (hC : CPc2 P) {fu : Nat} {a1 : Int32} {r38 : (Int32 × mwM × mwL) → Option (mwM × mwL)} {v3 : Int32} (hr38 : ∀ s, P s.2.1 s.2.2 → kq2 P (r38 s)) {M : mwM} {L : mwL} (h : P M L) : kq2 P (fX6_fill_i38 fu a1 r38 v3 M L) := by
  unfold fX6_fill_i38
  exact (kqI2 (kqS2 h) (kqK2 (fun q1 => (kqI2 (kqK2 (fun q2 => (kqK2 (fun q3 => (kqK2 (fun q4 => (kqK2 (fun q5 => (kqK2 (fun q6 => (kqB32 (y_DX6_cutTo hC h) (fun r19 M17 L18 h7 => (y_fX6_fill_h98 hC hr38 _ (v3, r19, 0, M17, L18) h7))))))))))))) (y_fX6_fill_b139 hC hr38 h)))))
theorem y_fX6_fill_h38 {P : mwM → mwL → Prop} (hC : CPc2 P) {fu : Nat} {a1 : Int32} : ∀ n s, P s.2.1 s.2.2 → kq2 P (fX6_fill_h38 fu a1 n s) := by
  intro n
  induction n with
  | zero => intro s _; exact kqN2
  | succ n ih =>
    intro s h
    show kq2 P (fX6_fill_i38 fu a1 (fX6_fill_h38 fu a1 n) s.1 s.2.1 s.2.2)
    exact y_fX6_fill_i38 hC ih h
theorem y_fX6_fill_i14 {P : mwM → mwL → Prop} (hC : CPc2 P) {fu : Nat} {a1 : Int32} {r14 : (Int32 × mwM × mwL) → Option (mwM × mwL)} {v3 : Int32} (hr14 : ∀ s, P s.2.1 s.2.2 → kq2 P (r14 s)) {M : mwM} {L : mwL} (h : P M L) : kq2 P (fX6_fill_i14 fu a1 r14 v3 M L) := by
  unfold fX6_fill_i14
  exact (kqI2 (y_fX6_fill_h38 hC _ (0, M, L) h) (kqK2 (fun q1 => (kqM2_c2 hC h (by omega) (fun M3 h2 => (kqL2 (fun x4 => (hr14 (x4, M3, L) h2))))))))
theorem y_fX6_fill_h14 {P : mwM → mwL → Prop} (hC : CPc2 P) {fu : Nat} {a1 : Int32} : ∀ n s, P s.2.1 s.2.2 → kq2 P (fX6_fill_h14 fu a1 n s) := by
  intro n
  induction n with
  | zero => intro s _; exact kqN2
  | succ n ih =>
    intro s h
    show kq2 P (fX6_fill_i14 fu a1 (fX6_fill_h14 fu a1 n) s.1 s.2.1 s.2.2)
    exact y_fX6_fill_i14 hC ih h
theorem y_DX6_fill {P : mwM → mwL → Prop} (hC : CPc2 P) {fu : Nat} {a1 : Int32} {M : mwM} {L : mwL} (h : P M L) : kq2 P (DX6_fill fu a1 M L) := by
  unfold DX6_fill
  exact (kqK2 (fun q1 => (kqK2 (fun q2 => (kqM2_c2 hC h (by omega) (fun M34 h3 => (y_fX6_fill_h14 hC _ (0, M34, L) h3)))))))
theorem y_fX6_valueIn_i11 {P : mwM → mwL → Prop} (hC : CPc2 P) {fu : Nat} {a1 : Int32} {a2 : Nat} {n2 : Nat} {r11 : (Int64 × Int32 × mwM × mwL) → Option (Int64 × mwM × mwL)} {v3 : Int64} {v5 : Int32} (hr11 : ∀ s, P s.2.2.1 s.2.2.2 → kq3 P (r11 s)) {M : mwM} {L : mwL} (h : P M L) : kq3 P (fX6_valueIn_i11 fu a1 a2 n2 r11 v3 v5 M L) := by
  unfold fX6_valueIn_i11
  exact (kqI3 (kqK3 (fun q1 => (kqB33 (y_DX6_cutTo hC h) (fun r6 M4 L5 h2 => (kqS3 h2))))) (kqB33 (y_DX6_placeOf hC h) (fun r9 M7 L8 h3 => (kqK3 (fun q4 => (kqL3 (fun x11 => (kqL3 (fun x12 => (hr11 (x11, x12, M7, L8) h3))))))))))
theorem y_fX6_valueIn_h11 {P : mwM → mwL → Prop} (hC : CPc2 P) {fu : Nat} {a1 : Int32} {a2 : Nat} {n2 : Nat} : ∀ n s, P s.2.2.1 s.2.2.2 → kq3 P (fX6_valueIn_h11 fu a1 a2 n2 n s) := by
  intro n
  induction n with
  | zero => intro s _; exact kqN3
  | succ n ih =>
    intro s h
    show kq3 P (fX6_valueIn_i11 fu a1 a2 n2 (fX6_valueIn_h11 fu a1 a2 n2 n) s.1 s.2.1 s.2.2.1 s.2.2.2)
    exact y_fX6_valueIn_i11 hC ih h
theorem y_DX6_valueIn {P : mwM → mwL → Prop} (hC : CPc2 P) {fu : Nat} {a1 : Int32} {a2 : Nat} {n2 : Nat} {M : mwM} {L : mwL} (h : P M L) : kq3 P (DX6_valueIn fu a1 a2 n2 M L) := by
  unfold DX6_valueIn
  exact (kqB33 (y_DX6_octetsOf hC h) (fun r15 M13 L14 h1 => (kqL3 (fun x16 => (y_fX6_valueIn_h11 hC _ (0, x16, M13, L14) h1)))))
theorem y_fX6_makeCode_i65 {P : mwM → mwL → Prop} (hC : CPc2 P) {fu : Nat} {a1 : Int32} {a2 : Int32} {a3 : Nat} {n3 : Nat} {r65 : (Int32 × mwM × mwL) → Option (mwM × mwL)} {v5 : Int32} (hr65 : ∀ s, P s.2.1 s.2.2 → kq2 P (r65 s)) {M : mwM} {L : mwL} (h : P M L) : kq2 P (fX6_makeCode_i65 fu a1 a2 a3 n3 r65 v5 M L) := by
  unfold fX6_makeCode_i65
  exact (kqI2 (kqK2 (fun q1 => (kqB22 (y_DX3_make hC h) (fun M10 L11 h2 => (kqS2 h2))))) (kqK2 (fun q3 => (kqK2 (fun q4 => (kqM2_c2 hC h (by omega) (fun M14 h5 => (kqL2 (fun x15 => (hr65 (x15, M14, L) h5))))))))))
theorem y_fX6_makeCode_h65 {P : mwM → mwL → Prop} (hC : CPc2 P) {fu : Nat} {a1 : Int32} {a2 : Int32} {a3 : Nat} {n3 : Nat} : ∀ n s, P s.2.1 s.2.2 → kq2 P (fX6_makeCode_h65 fu a1 a2 a3 n3 n s) := by
  intro n
  induction n with
  | zero => intro s _; exact kqN2
  | succ n ih =>
    intro s h
    show kq2 P (fX6_makeCode_i65 fu a1 a2 a3 n3 (fX6_makeCode_h65 fu a1 a2 a3 n3 n) s.1 s.2.1 s.2.2)
    exact y_fX6_makeCode_i65 hC ih h
theorem y_fX6_makeCode_i17 {P : mwM → mwL → Prop} (hC : CPc2 P) {fu : Nat} {a1 : Int32} {a2 : Int32} {a3 : Nat} {n3 : Nat} {r17 : (Int32 × mwM × mwL) → Option (mwM × mwL)} {v5 : Int32} (hr17 : ∀ s, P s.2.1 s.2.2 → kq2 P (r17 s)) {M : mwM} {L : mwL} (h : P M L) : kq2 P (fX6_makeCode_i17 fu a1 a2 a3 n3 r17 v5 M L) := by
  unfold fX6_makeCode_i17
  exact (kqI2 (y_fX6_makeCode_h65 hC _ (0, M, L) h) (kqK2 (fun q1 => (kqM2_c2 hC h (by omega) (fun M3 h2 => (kqK2 (fun q3 => (kqM2_c2 hC h2 (by omega) (fun M5 h4 => (kqL2 (fun x6 => (hr17 (x6, M5, L) h4))))))))))))
theorem y_fX6_makeCode_h17 {P : mwM → mwL → Prop} (hC : CPc2 P) {fu : Nat} {a1 : Int32} {a2 : Int32} {a3 : Nat} {n3 : Nat} : ∀ n s, P s.2.1 s.2.2 → kq2 P (fX6_makeCode_h17 fu a1 a2 a3 n3 n s) := by
  intro n
  induction n with
  | zero => intro s _; exact kqN2
  | succ n ih =>
    intro s h
    show kq2 P (fX6_makeCode_i17 fu a1 a2 a3 n3 (fX6_makeCode_h17 fu a1 a2 a3 n3 n) s.1 s.2.1 s.2.2)
    exact y_fX6_makeCode_i17 hC ih h
theorem y_DX6_makeCode {P : mwM → mwL → Prop} (hC : CPc2 P) {fu : Nat} {a1 : Int32} {a2 : Int32} {a3 : Nat} {n3 : Nat} {M : mwM} {L : mwL} (h : P M L) : kq2 P (DX6_makeCode fu a1 a2 a3 n3 M L) := by
  unfold DX6_makeCode
  exact (kqK2 (fun q1 => (kqM2_c2 hC h (by omega) (fun M19 h2 => (y_fX6_makeCode_h17 hC _ (0, M19, L) h2)))))
theorem y_fX6_seal_i38 {P : mwM → mwL → Prop} (hC : CPc2 P) {fu : Nat} {a1 : Int32} {r38 : (Int32 × mwM × mwL) → Option (mwM × mwL)} {v3 : Int32} (hr38 : ∀ s, P s.2.1 s.2.2 → kq2 P (r38 s)) {M : mwM} {L : mwL} (h : P M L) : kq2 P (fX6_seal_i38 fu a1 r38 v3 M L) := by
  unfold fX6_seal_i38
  exact (kqI2 (kqS2 h) (kqK2 (fun q1 => (kqK2 (fun q2 => (kqM2_c2 hC h (by omega) (fun M4 h3 => (kqL2 (fun x5 => (hr38 (x5, M4, L) h3))))))))))
theorem y_fX6_seal_h38 {P : mwM → mwL → Prop} (hC : CPc2 P) {fu : Nat} {a1 : Int32} : ∀ n s, P s.2.1 s.2.2 → kq2 P (fX6_seal_h38 fu a1 n s) := by
  intro n
  induction n with
  | zero => intro s _; exact kqN2
  | succ n ih =>
    intro s h
    show kq2 P (fX6_seal_i38 fu a1 (fX6_seal_h38 fu a1 n) s.1 s.2.1 s.2.2)
    exact y_fX6_seal_i38 hC ih h
theorem y_DX6_seal {P : mwM → mwL → Prop} (hC : CPc2 P) {fu : Nat} {a1 : Int32} {M : mwM} {L : mwL} (h : P M L) : kq2 P (DX6_seal fu a1 M L) := by
  unfold DX6_seal
  exact (kqK2 (fun q1 => (kqM2_c2 hC h (by omega) (fun M9 h2 => (kqK2 (fun q3 => (kqB22 (y_DX6_makeCode hC h2) (fun M12 L13 h4 => (y_fX6_seal_h38 hC _ (0, M12, L13) h4)))))))))
theorem y_fX6_accept_b30 {P : mwM → mwL → Prop} (hC : CPc2 P) {fu : Nat} {a1 : Int32} {a2 : Int32} {a3 : Nat} {n3 : Nat} {M : mwM} {L : mwL} (h : P M L) : kq3 P (fX6_accept_b30 fu a1 a2 a3 n3 M L) := by
  unfold fX6_accept_b30
  exact (kqS3 h)
theorem y_DX6_accept {P : mwM → mwL → Prop} (hC : CPc2 P) {fu : Nat} {a1 : Int32} {a2 : Int32} {a3 : Nat} {n3 : Nat} {M : mwM} {L : mwL} (h : P M L) : kq3 P (DX6_accept fu a1 a2 a3 n3 M L) := by
  unfold DX6_accept
  exact (kqK3 (fun q1 => (kqK3 (fun q2 => (kqK3 (fun q3 => (kqL3 (fun x4 => (kqI3 (y_fX6_accept_b30 hC h) (kqI3 (kqK3 (fun q4 => (kqK3 (fun q5 => (kqB23 (y_DX6_makeCode hC h) (fun M9 L10 h6 => (kqB33 (y_DX3_isOut hC h6) (fun r13 M11 L12 h7 => (kqI3 (kqS3 h7) (kqK3 (fun q8 => (kqK3 (fun q9 => (kqK3 (fun q10 => (kqM3_c2 hC h7 (by omega) (fun M18 h11 => (kqS3 h11)))))))))))))))))) (y_fX6_accept_b30 hC h)))))))))))
theorem y_fX7_clear_i7 {P : mwM → mwL → Prop} (hC : CPc2 P) {fu : Nat} {r7 : (Int32 × mwM × mwL) → Option (mwM × mwL)} {v1 : Int32} (hr7 : ∀ s, P s.2.1 s.2.2 → kq2 P (r7 s)) {M : mwM} {L : mwL} (h : P M L) : kq2 P (fX7_clear_i7 fu r7 v1 M L) := by
  unfold fX7_clear_i7
  exact (kqI2 (kqS2 h) (kqK2 (fun q1 => (kqM2_c2 hC h (by omega) (fun M3 h2 => (kqK2 (fun q3 => (kqM2_c2 hC h2 (by omega) (fun M5 h4 => (kqK2 (fun q5 => (kqM2_c2 hC h4 (by omega) (fun M7 h6 => (kqK2 (fun q7 => (kqM2_c2 hC h6 (by omega) (fun M9 h8 => (kqL2 (fun x10 => (hr7 (x10, M9, L) h8))))))))))))))))))))
theorem y_fX7_clear_h7 {P : mwM → mwL → Prop} (hC : CPc2 P) {fu : Nat} : ∀ n s, P s.2.1 s.2.2 → kq2 P (fX7_clear_h7 fu n s) := by
  intro n
  induction n with
  | zero => intro s _; exact kqN2
  | succ n ih =>
    intro s h
    show kq2 P (fX7_clear_i7 fu (fX7_clear_h7 fu n) s.1 s.2.1 s.2.2)
    exact y_fX7_clear_i7 hC ih h
theorem y_DX7_clear {P : mwM → mwL → Prop} (hC : CPc2 P) {fu : Nat} {M : mwM} {L : mwL} (h : P M L) : kq2 P (DX7_clear fu M L) := by
  unfold DX7_clear
  exact (kqM2_c2 hC h (by omega) (fun M11 h1 => (y_fX7_clear_h7 hC _ (0, M11, L) h1)))
theorem y_fX7_isKnown_b41 {P : mwM → mwL → Prop} (hC : CPc2 P) {fu : Nat} {a1 : Int32} {s0 : Int32} {M : mwM} {L : mwL} (h : P M L) : kq3 P (fX7_isKnown_b41 fu a1 s0 M L) := by
  unfold fX7_isKnown_b41
  exact (kq_mzz3 (kqS3 h))
theorem y_fX7_isKnown_b36 {P : mwM → mwL → Prop} (hC : CPc2 P) {fu : Nat} {a1 : Int32} {M : mwM} {L : mwL} (h : P M L) : kq3 P (fX7_isKnown_b36 fu a1 M L) := by
  unfold fX7_isKnown_b36
  exact (y_fX7_isKnown_b41 hC h)
theorem y_DX7_isKnown {P : mwM → mwL → Prop} (hC : CPc2 P) {fu : Nat} {a1 : Int32} {M : mwM} {L : mwL} (h : P M L) : kq3 P (DX7_isKnown fu a1 M L) := by
  unfold DX7_isKnown
  exact (kqI3 (y_fX7_isKnown_b36 hC h) (kqI3 (y_fX7_isKnown_b36 hC h) (kqI3 (y_fX7_isKnown_b36 hC h) (kqI3 (y_fX7_isKnown_b36 hC h) (kqI3 (y_fX7_isKnown_b36 hC h) (kqI3 (y_fX7_isKnown_b36 hC h) (y_fX7_isKnown_b41 hC h)))))))
theorem y_fX7_put_b29 {P : mwM → mwL → Prop} (hC : CPc2 P) {fu : Nat} {a1 : Int32} {M : mwM} {L : mwL} (h : P M L) : kq2 P (fX7_put_b29 fu a1 M L) := by
  unfold fX7_put_b29
  exact (kqS2 h)
theorem y_DX7_put {P : mwM → mwL → Prop} (hC : CPc2 P) {fu : Nat} {a1 : Int32} {M : mwM} {L : mwL} (h : P M L) : kq2 P (DX7_put fu a1 M L) := by
  unfold DX7_put
  exact (kqI2 (y_fX7_put_b29 hC h) (kqK2 (fun q1 => (kqM2_c2 hC h (by omega) (fun M3 h2 => (kqM2_c2 hC h2 (by omega) (fun M4 h3 => (y_fX7_put_b29 hC h3))))))))
theorem y_DX7_refuse {P : mwM → mwL → Prop} (hC : CPc2 P) {fu : Nat} {a1 : Int32} {a2 : Int32} {M : mwM} {L : mwL} (h : P M L) : kq2 P (DX7_refuse fu a1 a2 M L) := by
  unfold DX7_refuse
  exact (kqB22 (y_DX7_put hC h) (fun M1 L2 h1 => (kqB22 (y_DX7_put hC h1) (fun M3 L4 h2 => (kqB22 (y_DX7_put hC h2) (fun M5 L6 h3 => (kqS2 h3)))))))
theorem y_fX7_isRightLength_b54 {P : mwM → mwL → Prop} (hC : CPc2 P) {fu : Nat} {a1 : Nat} {n1 : Nat} {a2 : Int32} {s0 : Int32} {M : mwM} {L : mwL} (h : P M L) : kq3 P (fX7_isRightLength_b54 fu a1 n1 a2 s0 M L) := by
  unfold fX7_isRightLength_b54
  exact (kq_mzz3 (kqS3 h))
theorem y_fX7_isRightLength_b65 {P : mwM → mwL → Prop} (hC : CPc2 P) {fu : Nat} {a1 : Nat} {n1 : Nat} {a2 : Int32} {s0 : Int32} {M : mwM} {L : mwL} (h : P M L) : kq3 P (fX7_isRightLength_b65 fu a1 n1 a2 s0 M L) := by
  unfold fX7_isRightLength_b65
  exact (kq_mzz3 (kqS3 h))
theorem y_fX7_isRightLength_b77 {P : mwM → mwL → Prop} (hC : CPc2 P) {fu : Nat} {a1 : Nat} {n1 : Nat} {a2 : Int32} {s0 : Int32} {M : mwM} {L : mwL} (h : P M L) : kq3 P (fX7_isRightLength_b77 fu a1 n1 a2 s0 M L) := by
  unfold fX7_isRightLength_b77
  exact (kq_mzz3 (kqS3 h))
theorem y_fX7_isRightLength_b108 {P : mwM → mwL → Prop} (hC : CPc2 P) {fu : Nat} {a1 : Nat} {n1 : Nat} {a2 : Int32} {s0 : Int32} {M : mwM} {L : mwL} (h : P M L) : kq3 P (fX7_isRightLength_b108 fu a1 n1 a2 s0 M L) := by
  unfold fX7_isRightLength_b108
  exact (kq_mzz3 (kqS3 h))
theorem y_fX7_isRightLength_b103 {P : mwM → mwL → Prop} (hC : CPc2 P) {fu : Nat} {a1 : Nat} {n1 : Nat} {a2 : Int32} {M : mwM} {L : mwL} (h : P M L) : kq3 P (fX7_isRightLength_b103 fu a1 n1 a2 M L) := by
  unfold fX7_isRightLength_b103
  exact (y_fX7_isRightLength_b108 hC h)
theorem y_fX7_isRightLength_b107 {P : mwM → mwL → Prop} (hC : CPc2 P) {fu : Nat} {a1 : Nat} {n1 : Nat} {a2 : Int32} {M : mwM} {L : mwL} (h : P M L) : kq3 P (fX7_isRightLength_b107 fu a1 n1 a2 M L) := by
  unfold fX7_isRightLength_b107
  exact (y_fX7_isRightLength_b108 hC h)
theorem y_fX7_isRightLength_b90 {P : mwM → mwL → Prop} (hC : CPc2 P) {fu : Nat} {a1 : Nat} {n1 : Nat} {a2 : Int32} {M : mwM} {L : mwL} (h : P M L) : kq3 P (fX7_isRightLength_b90 fu a1 n1 a2 M L) := by
  unfold fX7_isRightLength_b90
  exact (kqI3 (kqK3 (fun q1 => (kqI3 (y_fX7_isRightLength_b103 hC h) (y_fX7_isRightLength_b107 hC h)))) (y_fX7_isRightLength_b107 hC h))
theorem y_fX7_isRightLength_b119 {P : mwM → mwL → Prop} (hC : CPc2 P) {fu : Nat} {a1 : Nat} {n1 : Nat} {a2 : Int32} {s0 : Int32} {M : mwM} {L : mwL} (h : P M L) : kq3 P (fX7_isRightLength_b119 fu a1 n1 a2 s0 M L) := by
  unfold fX7_isRightLength_b119
  exact (kq_mzz3 (kqS3 h))
theorem y_DX7_isRightLength {P : mwM → mwL → Prop} (hC : CPc2 P) {fu : Nat} {a1 : Nat} {n1 : Nat} {a2 : Int32} {M : mwM} {L : mwL} (h : P M L) : kq3 P (DX7_isRightLength fu a1 n1 a2 M L) := by
  unfold DX7_isRightLength
  exact (kqK3 (fun q1 => (kqL3 (fun x10 => (kqI3 (kqI3 (y_fX7_isRightLength_b54 hC h) (y_fX7_isRightLength_b54 hC h)) (kqI3 (kqI3 (y_fX7_isRightLength_b65 hC h) (y_fX7_isRightLength_b65 hC h)) (kqI3 (kqI3 (kqK3 (fun q2 => (kqI3 (y_fX7_isRightLength_b103 hC h) (y_fX7_isRightLength_b90 hC h)))) (y_fX7_isRightLength_b90 hC h)) (kqI3 (kqI3 (y_fX7_isRightLength_b77 hC h) (y_fX7_isRightLength_b77 hC h)) (kqI3 (y_fX7_isRightLength_b119 hC h) (y_fX7_isRightLength_b119 hC h))))))))))
theorem y_fX7_openSession_b10 {P : mwM → mwL → Prop} (hC : CPc2 P) {fu : Nat} {a1 : Int32} {a2 : Int32} {M : mwM} {L : mwL} (h : P M L) : kq2 P (fX7_openSession_b10 fu a1 a2 M L) := by
  unfold fX7_openSession_b10
  exact (kqB22 (y_DX7_refuse hC h) (fun M1 L2 h1 => (kqS2 h1)))
theorem y_DX7_openSession {P : mwM → mwL → Prop} (hC : CPc2 P) {fu : Nat} {a1 : Int32} {a2 : Int32} {M : mwM} {L : mwL} (h : P M L) : kq2 P (DX7_openSession fu a1 a2 M L) := by
  unfold DX7_openSession
  exact (kqI2 (y_fX7_openSession_b10 hC h) (kqI2 (kqK2 (fun q1 => (kqM2_c2 hC h (by omega) (fun M6 h2 => (kqK2 (fun q3 => (kqM2_c2 hC h2 (by omega) (fun M8 h4 => (kqK2 (fun q5 => (kqM2_c2 hC h4 (by omega) (fun M10 h6 => (kqB22 (y_DX7_put hC h6) (fun M11 L12 h7 => (kqB22 (y_DX7_put hC h7) (fun M13 L14 h8 => (kqS2 h8))))))))))))))))) (y_fX7_openSession_b10 hC h)))
theorem y_fX7_hasDatum_b34 {P : mwM → mwL → Prop} (hC : CPc2 P) {fu : Nat} {a2 : Int32} {a3 : Int32} {a4 : Int32} {s0 : Int32} {M : mwM} {L : mwL} (h : P M L) : kq3 P (fX7_hasDatum_b34 fu a2 a3 a4 s0 M L) := by
  unfold fX7_hasDatum_b34
  exact (kq_mzz3 (kqS3 h))
theorem y_fX7_hasDatum_b33 {P : mwM → mwL → Prop} (hC : CPc2 P) {fu : Nat} {a2 : Int32} {a3 : Int32} {a4 : Int32} {M : mwM} {L : mwL} (h : P M L) : kq3 P (fX7_hasDatum_b33 fu a2 a3 a4 M L) := by
  unfold fX7_hasDatum_b33
  exact (y_fX7_hasDatum_b34 hC h)
theorem y_DX7_hasDatum {P : mwM → mwL → Prop} (hC : CPc2 P) {fu : Nat} {a2 : Int32} {a3 : Int32} {a4 : Int32} {M : mwM} {L : mwL} (h : P M L) : kq3 P (DX7_hasDatum fu a2 a3 a4 M L) := by
  unfold DX7_hasDatum
  exact (kqI3 (y_fX7_hasDatum_b33 hC h) (kqI3 (y_fX7_hasDatum_b33 hC h) (kqK3 (fun q1 => (kqI3 (kqI3 (y_fX7_hasDatum_b33 hC h) (y_fX7_hasDatum_b34 hC h)) (y_fX7_hasDatum_b33 hC h))))))
theorem y_fX7_readDatum_i41 {P : mwM → mwL → Prop} (hC : CPc2 P) {fu : Nat} {a2 : Int32} {a3 : Int32} {a4 : Int32} {r41 : (Int32 × mwM × mwL) → Option (mwM × mwL)} {v5 : Int32} (hr41 : ∀ s, P s.2.1 s.2.2 → kq2 P (r41 s)) {M : mwM} {L : mwL} (h : P M L) : kq2 P (fX7_readDatum_i41 fu a2 a3 a4 r41 v5 M L) := by
  unfold fX7_readDatum_i41
  exact (kqI2 (kqS2 h) (kqK2 (fun q1 => (kqK2 (fun q2 => (kqB22 (y_DX7_put hC h) (fun M4 L5 h3 => (kqL2 (fun x6 => (hr41 (x6, M4, L5) h3))))))))))
theorem y_fX7_readDatum_h41 {P : mwM → mwL → Prop} (hC : CPc2 P) {fu : Nat} {a2 : Int32} {a3 : Int32} {a4 : Int32} : ∀ n s, P s.2.1 s.2.2 → kq2 P (fX7_readDatum_h41 fu a2 a3 a4 n s) := by
  intro n
  induction n with
  | zero => intro s _; exact kqN2
  | succ n ih =>
    intro s h
    show kq2 P (fX7_readDatum_i41 fu a2 a3 a4 (fX7_readDatum_h41 fu a2 a3 a4 n) s.1 s.2.1 s.2.2)
    exact y_fX7_readDatum_i41 hC ih h
theorem y_DX7_readDatum {P : mwM → mwL → Prop} (hC : CPc2 P) {fu : Nat} {a2 : Int32} {a3 : Int32} {a4 : Int32} {M : mwM} {L : mwL} (h : P M L) : kq2 P (DX7_readDatum fu a2 a3 a4 M L) := by
  unfold DX7_readDatum
  exact (kqB32 (y_DX7_hasDatum hC h) (fun r9 M7 L8 h1 => (kqI2 (kqB22 (y_DX7_refuse hC h1) (fun M17 L18 h2 => (kqS2 h2))) (kqB22 (y_DX7_put hC h1) (fun M11 L12 h3 => (kqB22 (y_DX7_put hC h3) (fun M13 L14 h4 => (kqB22 (y_DX7_put hC h4) (fun M15 L16 h5 => (y_fX7_readDatum_h41 hC _ (56, M15, L16) h5))))))))))
theorem y_fX7_writeDatum_i47 {P : mwM → mwL → Prop} (hC : CPc2 P) {fu : Nat} {a2 : Int32} {a3 : Nat} {n3 : Nat} {r47 : (Int64 × Int32 × mwM × mwL) → Option (mwM × mwL)} {v4 : Int64} {v6 : Int32} (hr47 : ∀ s, P s.2.2.1 s.2.2.2 → kq2 P (r47 s)) {M : mwM} {L : mwL} (h : P M L) : kq2 P (fX7_writeDatum_i47 fu a2 a3 n3 r47 v4 v6 M L) := by
  unfold fX7_writeDatum_i47
  exact (kqI2 (kqK2 (fun q1 => (kqK2 (fun q2 => (kqK2 (fun q3 => (kqK2 (fun q4 => (kqW2_c2 hC h (by omega) (fun L6 h5 => (kqB22 (y_DX7_put hC h5) (fun M7 L8 h6 => (kqK2 (fun q7 => (kqB22 (y_DX7_put hC h6) (fun M10 L11 h8 => (kqK2 (fun q9 => (kqB22 (y_DX7_put hC h8) (fun M13 L14 h10 => (kqS2 h10))))))))))))))))))))) (kqK2 (fun q11 => (kqL2 (fun x16 => (kqL2 (fun x17 => (hr47 (x16, x17, M, L) h))))))))
theorem y_fX7_writeDatum_h47 {P : mwM → mwL → Prop} (hC : CPc2 P) {fu : Nat} {a2 : Int32} {a3 : Nat} {n3 : Nat} : ∀ n s, P s.2.2.1 s.2.2.2 → kq2 P (fX7_writeDatum_h47 fu a2 a3 n3 n s) := by
  intro n
  induction n with
  | zero => intro s _; exact kqN2
  | succ n ih =>
    intro s h
    show kq2 P (fX7_writeDatum_i47 fu a2 a3 n3 (fX7_writeDatum_h47 fu a2 a3 n3 n) s.1 s.2.1 s.2.2.1 s.2.2.2)
    exact y_fX7_writeDatum_i47 hC ih h
theorem y_DX7_writeDatum {P : mwM → mwL → Prop} (hC : CPc2 P) {fu : Nat} {a2 : Int32} {a3 : Nat} {n3 : Nat} {M : mwM} {L : mwL} (h : P M L) : kq2 P (DX7_writeDatum fu a2 a3 n3 M L) := by
  unfold DX7_writeDatum
  exact (kqK2 (fun q1 => (kqI2 (kqB22 (y_DX7_refuse hC h) (fun M28 L29 h2 => (kqS2 h2))) (kqK2 (fun q3 => (kqK2 (fun q4 => (kqB32 (y_DX7_hasDatum hC h) (fun r24 M22 L23 h5 => (kqI2 (kqB22 (y_DX7_refuse hC h5) (fun M26 L27 h6 => (kqS2 h6))) (y_fX7_writeDatum_h47 hC _ (0, 0, M22, L23) h5)))))))))))
theorem y_fX7_listTroubles_i16 {P : mwM → mwL → Prop} (hC : CPc2 P) {fu : Nat} {r16 : (Int32 × mwM × mwL) → Option (mwM × mwL)} {v2 : Int32} (hr16 : ∀ s, P s.2.1 s.2.2 → kq2 P (r16 s)) {M : mwM} {L : mwL} (h : P M L) : kq2 P (fX7_listTroubles_i16 fu r16 v2 M L) := by
  unfold fX7_listTroubles_i16
  exact (kqI2 (kqS2 h) (kqK2 (fun q1 => (kqB22 (y_DX7_put hC h) (fun M3 L4 h2 => (kqK2 (fun q3 => (kqB32 (y_DX10_statusOf hC h2) (fun r8 M6 L7 h4 => (kqB22 (y_DX7_put hC h4) (fun M9 L10 h5 => (kqL2 (fun x11 => (hr16 (x11, M9, L10) h5))))))))))))))
theorem y_fX7_listTroubles_h16 {P : mwM → mwL → Prop} (hC : CPc2 P) {fu : Nat} : ∀ n s, P s.2.1 s.2.2 → kq2 P (fX7_listTroubles_h16 fu n s) := by
  intro n
  induction n with
  | zero => intro s _; exact kqN2
  | succ n ih =>
    intro s h
    show kq2 P (fX7_listTroubles_i16 fu (fX7_listTroubles_h16 fu n) s.1 s.2.1 s.2.2)
    exact y_fX7_listTroubles_i16 hC ih h
theorem y_DX7_listTroubles {P : mwM → mwL → Prop} (hC : CPc2 P) {fu : Nat} {M : mwM} {L : mwL} (h : P M L) : kq2 P (DX7_listTroubles fu M L) := by
  unfold DX7_listTroubles
  exact (kqB22 (y_DX7_put hC h) (fun M12 L13 h1 => (kqB22 (y_DX7_put hC h1) (fun M14 L15 h2 => (y_fX7_listTroubles_h16 hC _ (0, M14, L15) h2)))))
theorem y_fX7_openSeed_i82 {P : mwM → mwL → Prop} (hC : CPc2 P) {fu : Nat} {a1 : Int32} {r82 : (Int32 × mwM × mwL) → Option (mwM × mwL)} {v2 : Int32} (hr82 : ∀ s, P s.2.1 s.2.2 → kq2 P (r82 s)) {M : mwM} {L : mwL} (h : P M L) : kq2 P (fX7_openSeed_i82 fu a1 r82 v2 M L) := by
  unfold fX7_openSeed_i82
  exact (kqI2 (kqS2 h) (kqK2 (fun q1 => (kqB22 (y_DX7_put hC h) (fun M3 L4 h2 => (kqL2 (fun x5 => (hr82 (x5, M3, L4) h2))))))))
theorem y_fX7_openSeed_h82 {P : mwM → mwL → Prop} (hC : CPc2 P) {fu : Nat} {a1 : Int32} : ∀ n s, P s.2.1 s.2.2 → kq2 P (fX7_openSeed_h82 fu a1 n s) := by
  intro n
  induction n with
  | zero => intro s _; exact kqN2
  | succ n ih =>
    intro s h
    show kq2 P (fX7_openSeed_i82 fu a1 (fX7_openSeed_h82 fu a1 n) s.1 s.2.1 s.2.2)
    exact y_fX7_openSeed_i82 hC ih h
theorem y_DX7_openSeed {P : mwM → mwL → Prop} (hC : CPc2 P) {fu : Nat} {a1 : Int32} {M : mwM} {L : mwL} (h : P M L) : kq2 P (DX7_openSeed fu a1 M L) := by
  unfold DX7_openSeed
  exact (kqK2 (fun q1 => (kqI2 (kqB22 (y_DX7_refuse hC h) (fun M21 L22 h2 => (kqS2 h2))) (kqK2 (fun q3 => (kqI2 (kqM2_c2 hC h (by omega) (fun M10 h4 => (kqK2 (fun q5 => (kqM2_c2 hC h4 (by omega) (fun M12 h6 => (kqK2 (fun q7 => (kqM2_c2 hC h6 (by omega) (fun M14 h8 => (kqB22 (y_DX7_put hC h8) (fun M15 L16 h9 => (kqB22 (y_DX7_put hC h9) (fun M17 L18 h10 => (y_fX7_openSeed_h82 hC _ (24, M17, L18) h10))))))))))))))) (kqB22 (y_DX7_refuse hC h) (fun M19 L20 h11 => (kqS2 h11)))))))))
theorem y_fX7_tryKey_b159 {P : mwM → mwL → Prop} (hC : CPc2 P) {fu : Nat} {a2 : Int32} {a3 : Nat} {n3 : Nat} {s1 : Int32} {s2 : Int32} {M : mwM} {L : mwL} (h : P M L) : kq2 P (fX7_tryKey_b159 fu a2 a3 n3 s1 s2 M L) := by
  unfold fX7_tryKey_b159
  exact (kqB22 (y_DX7_refuse hC h) (fun M24 L25 h1 => (kqS2 h1)))
theorem y_fX7_tryKey_i47 {P : mwM → mwL → Prop} (hC : CPc2 P) {fu : Nat} {a2 : Int32} {a3 : Nat} {n3 : Nat} {r47 : (Int32 × mwM × mwL) → Option (mwM × mwL)} {v4 : Int32} (hr47 : ∀ s, P s.2.1 s.2.2 → kq2 P (r47 s)) {M : mwM} {L : mwL} (h : P M L) : kq2 P (fX7_tryKey_i47 fu a2 a3 n3 r47 v4 M L) := by
  unfold fX7_tryKey_i47
  exact (kqI2 (kqB22 (y_DX3_make hC h) (fun M2 L3 h1 => (kqB32 (y_DX3_isOut hC h1) (fun r6 M4 L5 h2 => (kqK2 (fun q3 => (kqM2_c2 hC h2 (by omega) (fun M8 h4 => (kqK2 (fun q5 => (kqI2 (kqK2 (fun q6 => (kqK2 (fun q7 => (kqM2_c2 hC h4 (by omega) (fun M13 h8 => (kqK2 (fun q9 => (kqI2 (y_fX7_tryKey_b159 hC h8) (y_fX7_tryKey_b159 hC h8)))))))))) (kqB22 (y_DX7_put hC h4) (fun M16 L17 h10 => (kqB22 (y_DX7_put hC h10) (fun M18 L19 h11 => (kqS2 h11)))))))))))))))) (kqK2 (fun q12 => (kqK2 (fun q13 => (kqM2_c2 hC h (by omega) (fun M22 h14 => (kqL2 (fun x23 => (hr47 (x23, M22, L) h14))))))))))
theorem y_fX7_tryKey_h47 {P : mwM → mwL → Prop} (hC : CPc2 P) {fu : Nat} {a2 : Int32} {a3 : Nat} {n3 : Nat} : ∀ n s, P s.2.1 s.2.2 → kq2 P (fX7_tryKey_h47 fu a2 a3 n3 n s) := by
  intro n
  induction n with
  | zero => intro s _; exact kqN2
  | succ n ih =>
    intro s h
    show kq2 P (fX7_tryKey_i47 fu a2 a3 n3 (fX7_tryKey_h47 fu a2 a3 n3 n) s.1 s.2.1 s.2.2)
    exact y_fX7_tryKey_i47 hC ih h
theorem y_DX7_tryKey {P : mwM → mwL → Prop} (hC : CPc2 P) {fu : Nat} {a2 : Int32} {a3 : Nat} {n3 : Nat} {M : mwM} {L : mwL} (h : P M L) : kq2 P (DX7_tryKey fu a2 a3 n3 M L) := by
  unfold DX7_tryKey
  exact (kqK2 (fun q1 => (kqI2 (kqK2 (fun q2 => (kqI2 (kqB22 (y_DX7_refuse hC h) (fun M32 L33 h3 => (kqS2 h3))) (kqK2 (fun q4 => (kqM2_c2 hC h (by omega) (fun M31 h5 => (y_fX7_tryKey_h47 hC _ (0, M31, L) h5)))))))) (kqB22 (y_DX7_refuse hC h) (fun M34 L35 h6 => (kqS2 h6))))))
theorem y_fX7_makeReply_b189 {P : mwM → mwL → Prop} (hC : CPc2 P) {fu : Nat} {a2 : Int32} {a3 : Nat} {n3 : Nat} {a4 : Int32} {M : mwM} {L : mwL} (h : P M L) : kq2 P (fX7_makeReply_b189 fu a2 a3 n3 a4 M L) := by
  unfold fX7_makeReply_b189
  exact (kqS2 h)
theorem y_fX7_makeReply_b155 {P : mwM → mwL → Prop} (hC : CPc2 P) {fu : Nat} {a2 : Int32} {a3 : Nat} {n3 : Nat} {a4 : Int32} {M : mwM} {L : mwL} (h : P M L) : kq2 P (fX7_makeReply_b155 fu a2 a3 n3 a4 M L) := by
  unfold fX7_makeReply_b155
  exact (kqK2 (fun q1 => (kqI2 (kqB22 (y_DX7_tryKey hC h) (fun M7 L8 h2 => (y_fX7_makeReply_b189 hC h2))) (kqB22 (y_DX10_forgetAll hC h) (fun M3 L4 h3 => (kqB22 (y_DX7_put hC h3) (fun M5 L6 h4 => (y_fX7_makeReply_b189 hC h4))))))))
theorem y_DX7_makeReply {P : mwM → mwL → Prop} (hC : CPc2 P) {fu : Nat} {a2 : Int32} {a3 : Nat} {n3 : Nat} {a4 : Int32} {M : mwM} {L : mwL} (h : P M L) : kq2 P (DX7_makeReply fu a2 a3 n3 a4 M L) := by
  unfold DX7_makeReply
  exact (kqM2_c2 hC h (by omega) (fun M9 h1 => (kqK2 (fun q2 => (kqB32 (y_DX7_isKnown hC h1) (fun r13 M11 L12 h3 => (kqI2 (kqK2 (fun q4 => (kqB22 (y_DX7_refuse hC h3) (fun M48 L49 h5 => (y_fX7_makeReply_b189 hC h5))))) (kqB32 (y_DX7_isRightLength hC h3) (fun r17 M15 L16 h6 => (kqI2 (kqK2 (fun q7 => (kqB22 (y_DX7_refuse hC h6) (fun M45 L46 h8 => (y_fX7_makeReply_b189 hC h8))))) (kqK2 (fun q9 => (kqI2 (kqK2 (fun q10 => (kqB22 (y_DX7_openSession hC h6) (fun M42 L43 h11 => (y_fX7_makeReply_b189 hC h11))))) (kqK2 (fun q12 => (kqI2 (kqK2 (fun q13 => (kqK2 (fun q14 => (kqB22 (y_DX7_readDatum hC h6) (fun M39 L40 h15 => (y_fX7_makeReply_b189 hC h15))))))) (kqK2 (fun q16 => (kqI2 (kqB22 (y_DX7_writeDatum hC h6) (fun M35 L36 h17 => (y_fX7_makeReply_b189 hC h17))) (kqK2 (fun q18 => (kqI2 (kqB22 (y_DX7_listTroubles hC h6) (fun M33 L34 h19 => (y_fX7_makeReply_b189 hC h19))) (kqK2 (fun q20 => (kqI2 (kqK2 (fun q21 => (kqI2 (kqB22 (y_DX7_openSeed hC h6) (fun M31 L32 h22 => (y_fX7_makeReply_b189 hC h22))) (y_fX7_makeReply_b155 hC h6)))) (y_fX7_makeReply_b155 hC h6))))))))))))))))))))))))))
theorem y_fX1_clear_i68 {P : mwM → mwL → Prop} (hC : CPc2 P) {fu : Nat} {r68 : (Int32 × mwM × mwL) → Option (mwM × mwL)} {v1 : Int32} (hr68 : ∀ s, P s.2.1 s.2.2 → kq2 P (r68 s)) {M : mwM} {L : mwL} (h : P M L) : kq2 P (fX1_clear_i68 fu r68 v1 M L) := by
  unfold fX1_clear_i68
  exact (kqI2 (kqM2_c2 hC h (by omega) (fun M14 h1 => (kqM2_c2 hC h1 (by omega) (fun M15 h2 => (kqM2_c2 hC h2 (by omega) (fun M16 h3 => (kqM2_c2 hC h3 (by omega) (fun M17 h4 => (kqM2_c2 hC h4 (by omega) (fun M18 h5 => (kqM2_c2 hC h5 (by omega) (fun M19 h6 => (kqB22 (y_DX4_clear hC h6) (fun M20 L21 h7 => (kqB22 (y_DX6_clear hC h7) (fun M22 L23 h8 => (kqB22 (y_DX10_clear hC h8) (fun M24 L25 h9 => (kqB22 (y_DX9_clear hC h9) (fun M26 L27 h10 => (kqB22 (y_DX7_clear hC h10) (fun M28 L29 h11 => (kqS2 h11))))))))))))))))))))))) (kqK2 (fun q12 => (kqM2_c2 hC h (by omega) (fun M31 h13 => (kqL2 (fun x32 => (hr68 (x32, M31, L) h13))))))))
theorem y_fX1_clear_h68 {P : mwM → mwL → Prop} (hC : CPc2 P) {fu : Nat} : ∀ n s, P s.2.1 s.2.2 → kq2 P (fX1_clear_h68 fu n s) := by
  intro n
  induction n with
  | zero => intro s _; exact kqN2
  | succ n ih =>
    intro s h
    show kq2 P (fX1_clear_i68 fu (fX1_clear_h68 fu n) s.1 s.2.1 s.2.2)
    exact y_fX1_clear_i68 hC ih h
theorem y_fX1_clear_i47 {P : mwM → mwL → Prop} (hC : CPc2 P) {fu : Nat} {r47 : (Int32 × mwM × mwL) → Option (mwM × mwL)} {v1 : Int32} (hr47 : ∀ s, P s.2.1 s.2.2 → kq2 P (r47 s)) {M : mwM} {L : mwL} (h : P M L) : kq2 P (fX1_clear_i47 fu r47 v1 M L) := by
  unfold fX1_clear_i47
  exact (kqI2 (y_fX1_clear_h68 hC _ (0, M, L) h) (kqK2 (fun q1 => (kqM2_c2 hC h (by omega) (fun M11 h2 => (kqL2 (fun x12 => (hr47 (x12, M11, L) h2))))))))
theorem y_fX1_clear_h47 {P : mwM → mwL → Prop} (hC : CPc2 P) {fu : Nat} : ∀ n s, P s.2.1 s.2.2 → kq2 P (fX1_clear_h47 fu n s) := by
  intro n
  induction n with
  | zero => intro s _; exact kqN2
  | succ n ih =>
    intro s h
    show kq2 P (fX1_clear_i47 fu (fX1_clear_h47 fu n) s.1 s.2.1 s.2.2)
    exact y_fX1_clear_i47 hC ih h
theorem y_fX1_clear_i23 {P : mwM → mwL → Prop} (hC : CPc2 P) {fu : Nat} {r23 : (Int32 × mwM × mwL) → Option (mwM × mwL)} {v1 : Int32} (hr23 : ∀ s, P s.2.1 s.2.2 → kq2 P (r23 s)) {M : mwM} {L : mwL} (h : P M L) : kq2 P (fX1_clear_i23 fu r23 v1 M L) := by
  unfold fX1_clear_i23
  exact (kqI2 (y_fX1_clear_h47 hC _ (0, M, L) h) (kqK2 (fun q1 => (kqM2_c2 hC h (by omega) (fun M7 h2 => (kqL2 (fun x8 => (hr23 (x8, M7, L) h2))))))))
theorem y_fX1_clear_h23 {P : mwM → mwL → Prop} (hC : CPc2 P) {fu : Nat} : ∀ n s, P s.2.1 s.2.2 → kq2 P (fX1_clear_h23 fu n s) := by
  intro n
  induction n with
  | zero => intro s _; exact kqN2
  | succ n ih =>
    intro s h
    show kq2 P (fX1_clear_i23 fu (fX1_clear_h23 fu n) s.1 s.2.1 s.2.2)
    exact y_fX1_clear_i23 hC ih h
theorem y_fX1_clear_i2 {P : mwM → mwL → Prop} (hC : CPc2 P) {fu : Nat} {r2 : (Int32 × mwM × mwL) → Option (mwM × mwL)} {v1 : Int32} (hr2 : ∀ s, P s.2.1 s.2.2 → kq2 P (r2 s)) {M : mwM} {L : mwL} (h : P M L) : kq2 P (fX1_clear_i2 fu r2 v1 M L) := by
  unfold fX1_clear_i2
  exact (kqI2 (y_fX1_clear_h23 hC _ (0, M, L) h) (kqK2 (fun q1 => (kqM2_c2 hC h (by omega) (fun M3 h2 => (kqL2 (fun x4 => (hr2 (x4, M3, L) h2))))))))
theorem y_fX1_clear_h2 {P : mwM → mwL → Prop} (hC : CPc2 P) {fu : Nat} : ∀ n s, P s.2.1 s.2.2 → kq2 P (fX1_clear_h2 fu n s) := by
  intro n
  induction n with
  | zero => intro s _; exact kqN2
  | succ n ih =>
    intro s h
    show kq2 P (fX1_clear_i2 fu (fX1_clear_h2 fu n) s.1 s.2.1 s.2.2)
    exact y_fX1_clear_i2 hC ih h
theorem y_DX1_clear {P : mwM → mwL → Prop} (hC : CPc2 P) {fu : Nat} {M : mwM} {L : mwL} (h : P M L) : kq2 P (DX1_clear fu M L) := by
  unfold DX1_clear
  exact (y_fX1_clear_h2 hC _ (0, M, L) h)
theorem y_DX1_addChart {P : mwM → mwL → Prop} (hC : CPc2 P) {fu : Nat} {a1 : Int32} {a2 : Int32} {M : mwM} {L : mwL} (h : P M L) : kq2 P (DX1_addChart fu a1 a2 M L) := by
  unfold DX1_addChart
  exact (kqK2 (fun q1 => (kqK2 (fun q2 => (kqB22 (y_DX2_begin hC (by omega) h) (fun M4 L5 h3 => (kqK2 (fun q4 => (kqM2_c2 hC h3 (by omega) (fun M7 h5 => (kqM2_c2 hC h5 (by omega) (fun M8 h6 => (kqS2 h6)))))))))))))
theorem y_DX1_addRead {P : mwM → mwL → Prop} (hC : CPc2 P) {fu : Nat} {a1 : Int32} {a2 : Int32} {a3 : Int32} {a4 : Int32} {M : mwM} {L : mwL} (h : P M L) : kq3 P (DX1_addRead fu a1 a2 a3 a4 M L) := by
  unfold DX1_addRead
  exact (kqI3 (kqK3 (fun q1 => (kqM3_c2 hC h (by omega) (fun M4 h2 => (kqK3 (fun q3 => (kqM3_c2 hC h2 (by omega) (fun M7 h4 => (kqK3 (fun q5 => (kqM3_c2 hC h4 (by omega) (fun M10 h6 => (kqK3 (fun q7 => (kqM3_c2 hC h6 (by omega) (fun M13 h8 => (kqK3 (fun q9 => (kqM3_c2 hC h8 (by omega) (fun M16 h10 => (kqM3_c2 hC h10 (by omega) (fun M17 h11 => (kqS3 h11))))))))))))))))))))))) (kqS3 h))
theorem y_fX1_join_i86 {P : mwM → mwL → Prop} (hC : CPc2 P) {fu : Nat} {r86 : (Int32 × mwM × mwL) → Option (mwM × mwL)} {v1 : Int32} (hr86 : ∀ s, P s.2.1 s.2.2 → kq2 P (r86 s)) {M : mwM} {L : mwL} (h : P M L) : kq2 P (fX1_join_i86 fu r86 v1 M L) := by
  unfold fX1_join_i86
  exact (kqI2 (kqS2 h) (kqK2 (fun q1 => (kqB22 (y_DX2_findDomains hC (by omega) h) (fun M12 L13 h2 => (kqL2 (fun x14 => (hr86 (x14, M12, L13) h2))))))))
theorem y_fX1_join_h86 {P : mwM → mwL → Prop} (hC : CPc2 P) {fu : Nat} : ∀ n s, P s.2.1 s.2.2 → kq2 P (fX1_join_h86 fu n s) := by
  intro n
  induction n with
  | zero => intro s _; exact kqN2
  | succ n ih =>
    intro s h
    show kq2 P (fX1_join_i86 fu (fX1_join_h86 fu n) s.1 s.2.1 s.2.2)
    exact y_fX1_join_i86 hC ih h
theorem y_fX1_join_b78 {P : mwM → mwL → Prop} (hC : CPc2 P) {fu : Nat} {r35 : (Int32 × mwM × mwL) → Option (mwM × mwL)} {v1 : Int32} (hr35 : ∀ s, P s.2.1 s.2.2 → kq2 P (r35 s)) {M : mwM} {L : mwL} (h : P M L) : kq2 P (fX1_join_b78 fu r35 v1 M L) := by
  unfold fX1_join_b78
  exact (kqL2 (fun x9 => (hr35 (x9, M, L) h)))
theorem y_fX1_join_i35 {P : mwM → mwL → Prop} (hC : CPc2 P) {fu : Nat} {r35 : (Int32 × mwM × mwL) → Option (mwM × mwL)} {v1 : Int32} (hr35 : ∀ s, P s.2.1 s.2.2 → kq2 P (r35 s)) {M : mwM} {L : mwL} (h : P M L) : kq2 P (fX1_join_i35 fu r35 v1 M L) := by
  unfold fX1_join_i35
  exact (kqI2 (y_fX1_join_h86 hC _ (0, M, L) h) (kqK2 (fun q1 => (kqI2 (y_fX1_join_b78 hC hr35 h) (kqK2 (fun q2 => (kqB22 (y_DX3_learn hC h) (fun M7 L8 h3 => (y_fX1_join_b78 hC hr35 h3)))))))))
theorem y_fX1_join_h35 {P : mwM → mwL → Prop} (hC : CPc2 P) {fu : Nat} : ∀ n s, P s.2.1 s.2.2 → kq2 P (fX1_join_h35 fu n s) := by
  intro n
  induction n with
  | zero => intro s _; exact kqN2
  | succ n ih =>
    intro s h
    show kq2 P (fX1_join_i35 fu (fX1_join_h35 fu n) s.1 s.2.1 s.2.2)
    exact y_fX1_join_i35 hC ih h
theorem y_DX1_join {P : mwM → mwL → Prop} (hC : CPc2 P) {fu : Nat} {M : mwM} {L : mwL} (h : P M L) : kq2 P (DX1_join fu M L) := by
  unfold DX1_join
  exact (kqB22 (y_DX6_pack hC h) (fun M15 L16 h1 => (kqB22 (y_DX0_begin hC h1) (fun M17 L18 h2 => (kqB22 (y_DX3_learn hC h2) (fun M19 L20 h3 => (y_fX1_join_h35 hC _ (0, M19, L20) h3)))))))
theorem y_fX1_sendFrame_b84 {P : mwM → mwL → Prop} (hC : CPc2 P) {fu : Nat} {a1 : Int32} {M : mwM} {L : mwL} (h : P M L) : kq2 P (fX1_sendFrame_b84 fu a1 M L) := by
  unfold fX1_sendFrame_b84
  exact (kqS2 h)
theorem y_fX1_sendFrame_b38 {P : mwM → mwL → Prop} (hC : CPc2 P) {fu : Nat} {a1 : Int32} {M : mwM} {L : mwL} (h : P M L) : kq2 P (fX1_sendFrame_b38 fu a1 M L) := by
  unfold fX1_sendFrame_b38
  exact (kqK2 (fun q1 => (kqB32 (y_DX6_identifierOf hC h) (fun r5 M3 L4 h2 => (kqB32 (y_DX0_send hC h2) (fun r8 M6 L7 h3 => (kqI2 (kqM2_c2 hC h3 (by omega) (fun M12 h4 => (y_fX1_sendFrame_b84 hC h4))) (y_fX1_sendFrame_b84 hC h3))))))))
theorem y_DX1_sendFrame {P : mwM → mwL → Prop} (hC : CPc2 P) {fu : Nat} {a1 : Int32} {M : mwM} {L : mwL} (h : P M L) : kq2 P (DX1_sendFrame fu a1 M L) := by
  unfold DX1_sendFrame
  exact (kqB22 (y_DX6_fill hC h) (fun M13 L14 h1 => (kqK2 (fun q2 => (kqI2 (y_fX1_sendFrame_b38 hC h1) (kqB22 (y_DX6_seal hC h1) (fun M18 L19 h3 => (y_fX1_sendFrame_b38 hC h3))))))))
theorem y_fX1_sendFrames_b61 {P : mwM → mwL → Prop} (hC : CPc2 P) {fu : Nat} {a1 : Int32} {r14 : (Int32 × mwM × mwL) → Option (mwM × mwL)} {v2 : Int32} (hr14 : ∀ s, P s.2.1 s.2.2 → kq2 P (r14 s)) {M : mwM} {L : mwL} (h : P M L) : kq2 P (fX1_sendFrames_b61 fu a1 r14 v2 M L) := by
  unfold fX1_sendFrames_b61
  exact (kqL2 (fun x14 => (hr14 (x14, M, L) h)))
theorem y_fX1_sendFrames_i14 {P : mwM → mwL → Prop} (hC : CPc2 P) {fu : Nat} {a1 : Int32} {r14 : (Int32 × mwM × mwL) → Option (mwM × mwL)} {v2 : Int32} (hr14 : ∀ s, P s.2.1 s.2.2 → kq2 P (r14 s)) {M : mwM} {L : mwL} (h : P M L) : kq2 P (fX1_sendFrames_i14 fu a1 r14 v2 M L) := by
  unfold fX1_sendFrames_i14
  exact (kqI2 (kqB22 (y_DX6_findSoonest hC h) (fun M2 L3 h1 => (kqS2 h1))) (kqB32 (y_DX6_takeTurn hC h) (fun r6 M4 L5 h2 => (kqI2 (y_fX1_sendFrames_b61 hC hr14 h2) (kqK2 (fun q3 => (kqK2 (fun q4 => (kqI2 (kqB22 (y_DX1_sendFrame hC h2) (fun M12 L13 h5 => (y_fX1_sendFrames_b61 hC hr14 h5))) (y_fX1_sendFrames_b61 hC hr14 h2))))))))))
theorem y_fX1_sendFrames_h14 {P : mwM → mwL → Prop} (hC : CPc2 P) {fu : Nat} {a1 : Int32} : ∀ n s, P s.2.1 s.2.2 → kq2 P (fX1_sendFrames_h14 fu a1 n s) := by
  intro n
  induction n with
  | zero => intro s _; exact kqN2
  | succ n ih =>
    intro s h
    show kq2 P (fX1_sendFrames_i14 fu a1 (fX1_sendFrames_h14 fu a1 n) s.1 s.2.1 s.2.2)
    exact y_fX1_sendFrames_i14 hC ih h
theorem y_DX1_sendFrames {P : mwM → mwL → Prop} (hC : CPc2 P) {fu : Nat} {a1 : Int32} {M : mwM} {L : mwL} (h : P M L) : kq2 P (DX1_sendFrames fu a1 M L) := by
  unfold DX1_sendFrames
  exact (kqI2 (y_fX1_sendFrames_h14 hC _ (0, M, L) h) (kqS2 h))
theorem y_fX1_takeOfTransfer_b43 {P : mwM → mwL → Prop} (hC : CPc2 P) {fu : Nat} {a1 : Int32} {a2 : Int32} {M : mwM} {L : mwL} (h : P M L) : kq2 P (fX1_takeOfTransfer_b43 fu a1 a2 M L) := by
  unfold fX1_takeOfTransfer_b43
  exact (kqS2 h)
theorem y_fX1_takeOfTransfer_b160 {P : mwM → mwL → Prop} (hC : CPc2 P) {fu : Nat} {a1 : Int32} {a2 : Int32} {M : mwM} {L : mwL} (h : P M L) : kq2 P (fX1_takeOfTransfer_b160 fu a1 a2 M L) := by
  unfold fX1_takeOfTransfer_b160
  exact (kqS2 h)
theorem y_fX1_takeOfTransfer_b40 {P : mwM → mwL → Prop} (hC : CPc2 P) {fu : Nat} {a1 : Int32} {a2 : Int32} {v3 : Int32} {v4 : Int32} {s1 : Int32} {M : mwM} {L : mwL} (h : P M L) : kq2 P (fX1_takeOfTransfer_b40 fu a1 a2 v3 v4 s1 M L) := by
  unfold fX1_takeOfTransfer_b40
  exact (kqI2 (kqB32 (y_DX9_reach hC h) (fun r6 M4 L5 h1 => (kqI2 (kqS2 h1) (kqB32 (y_DX9_isQuestion hC h1) (fun r10 M8 L9 h2 => (kqI2 (kqI2 (kqM2_c2 hC h2 (by omega) (fun M13 h3 => (kqM2_c2 hC h3 (by omega) (fun M14 h4 => (kqM2_c2 hC h4 (by omega) (fun M17 h5 => (y_fX1_takeOfTransfer_b160 hC h5))))))) (y_fX1_takeOfTransfer_b160 hC h2)) (kqK2 (fun q6 => (kqK2 (fun q7 => (kqB22 (y_DX7_makeReply hC h2) (fun M21 L22 h8 => (kqB22 (y_DX9_make hC h8) (fun M23 L24 h9 => (y_fX1_takeOfTransfer_b160 hC h9))))))))))))))) (y_fX1_takeOfTransfer_b43 hC h))
theorem y_fX1_takeOfTransfer_b16 {P : mwM → mwL → Prop} (hC : CPc2 P) {fu : Nat} {a1 : Int32} {a2 : Int32} {v3 : Int32} {s0 : Int32} {M : mwM} {L : mwL} (h : P M L) : kq2 P (fX1_takeOfTransfer_b16 fu a1 a2 v3 s0 M L) := by
  unfold fX1_takeOfTransfer_b16
  exact (kqI2 (y_fX1_takeOfTransfer_b43 hC h) (kqI2 (y_fX1_takeOfTransfer_b40 hC h) (y_fX1_takeOfTransfer_b40 hC h)))
theorem y_DX1_takeOfTransfer {P : mwM → mwL → Prop} (hC : CPc2 P) {fu : Nat} {a1 : Int32} {a2 : Int32} {M : mwM} {L : mwL} (h : P M L) : kq2 P (DX1_takeOfTransfer fu a1 a2 M L) := by
  unfold DX1_takeOfTransfer
  exact (kqL2 (fun x26 => (kqI2 (y_fX1_takeOfTransfer_b16 hC h) (y_fX1_takeOfTransfer_b16 hC h))))
theorem y_fX1_takeRead_b107 {P : mwM → mwL → Prop} (hC : CPc2 P) {fu : Nat} {a1 : Int32} {a2 : Int64} {M : mwM} {L : mwL} (h : P M L) : kq2 P (fX1_takeRead_b107 fu a1 a2 M L) := by
  unfold fX1_takeRead_b107
  exact (kqS2 h)
theorem y_fX1_takeRead_b24 {P : mwM → mwL → Prop} (hC : CPc2 P) {fu : Nat} {a1 : Int32} {a2 : Int64} {M : mwM} {L : mwL} (h : P M L) : kq2 P (fX1_takeRead_b24 fu a1 a2 M L) := by
  unfold fX1_takeRead_b24
  exact (kqK2 (fun q1 => (kqM2_c2 hC h (by omega) (fun M3 h2 => (kqK2 (fun q3 => (kqW2_c2 hC h2 (by omega) (fun L5 h4 => (kqK2 (fun q5 => (kqK2 (fun q6 => (kqK2 (fun q7 => (kqK2 (fun q8 => (kqW2_c2 hC h4 (by omega) (fun L12 h9 => (kqK2 (fun q10 => (kqI2 (y_fX1_takeRead_b107 hC h9) (kqK2 (fun q11 => (kqB32 (y_DX2_queue hC (by omega) h9) (fun r20 M18 L19 h12 => (kqI2 (kqM2_c2 hC h12 (by omega) (fun M24 h13 => (y_fX1_takeRead_b107 hC h13))) (y_fX1_takeRead_b107 hC h12)))))))))))))))))))))))))))
theorem y_DX1_takeRead {P : mwM → mwL → Prop} (hC : CPc2 P) {fu : Nat} {a1 : Int32} {a2 : Int64} {M : mwM} {L : mwL} (h : P M L) : kq2 P (DX1_takeRead fu a1 a2 M L) := by
  unfold DX1_takeRead
  exact (kqK2 (fun q1 => (kqI2 (kqK2 (fun q2 => (kqI2 (kqS2 h) (y_fX1_takeRead_b24 hC h)))) (y_fX1_takeRead_b24 hC h))))
theorem y_fX1_takeSignals_b190 {P : mwM → mwL → Prop} (hC : CPc2 P) {fu : Nat} {a1 : Int32} {a2 : Int32} {a3 : Nat} {n3 : Nat} {r117 : (Int32 × mwM × mwL) → Option (mwM × mwL)} {v4 : Int32} (hr117 : ∀ s, P s.2.1 s.2.2 → kq2 P (r117 s)) {M : mwM} {L : mwL} (h : P M L) : kq2 P (fX1_takeSignals_b190 fu a1 a2 a3 n3 r117 v4 M L) := by
  unfold fX1_takeSignals_b190
  exact (kqL2 (fun x34 => (hr117 (x34, M, L) h)))
theorem y_fX1_takeSignals_i117 {P : mwM → mwL → Prop} (hC : CPc2 P) {fu : Nat} {a1 : Int32} {a2 : Int32} {a3 : Nat} {n3 : Nat} {r117 : (Int32 × mwM × mwL) → Option (mwM × mwL)} {v4 : Int32} (hr117 : ∀ s, P s.2.1 s.2.2 → kq2 P (r117 s)) {M : mwM} {L : mwL} (h : P M L) : kq2 P (fX1_takeSignals_i117 fu a1 a2 a3 n3 r117 v4 M L) := by
  unfold fX1_takeSignals_i117
  exact (kqI2 (kqS2 h) (kqK2 (fun q1 => (kqK2 (fun q2 => (kqI2 (kqK2 (fun q3 => (kqB32 (y_DX6_isIn hC h) (fun r25 M23 L24 h4 => (kqI2 (y_fX1_takeSignals_b190 hC hr117 h4) (kqK2 (fun q5 => (kqB32 (y_DX6_valueIn hC h4) (fun r31 M29 L30 h6 => (kqB22 (y_DX1_takeRead hC h6) (fun M32 L33 h7 => (y_fX1_takeSignals_b190 hC hr117 h7)))))))))))) (y_fX1_takeSignals_b190 hC hr117 h)))))))
theorem y_fX1_takeSignals_h117 {P : mwM → mwL → Prop} (hC : CPc2 P) {fu : Nat} {a1 : Int32} {a2 : Int32} {a3 : Nat} {n3 : Nat} : ∀ n s, P s.2.1 s.2.2 → kq2 P (fX1_takeSignals_h117 fu a1 a2 a3 n3 n s) := by
  intro n
  induction n with
  | zero => intro s _; exact kqN2
  | succ n ih =>
    intro s h
    show kq2 P (fX1_takeSignals_i117 fu a1 a2 a3 n3 (fX1_takeSignals_h117 fu a1 a2 a3 n3 n) s.1 s.2.1 s.2.2)
    exact y_fX1_takeSignals_i117 hC ih h
theorem y_fX1_takeSignals_b108 {P : mwM → mwL → Prop} (hC : CPc2 P) {fu : Nat} {a1 : Int32} {a2 : Int32} {a3 : Nat} {n3 : Nat} {r50 : (Int32 × mwM × mwL) → Option (mwM × mwL)} {v4 : Int32} (hr50 : ∀ s, P s.2.1 s.2.2 → kq2 P (r50 s)) {M : mwM} {L : mwL} (h : P M L) : kq2 P (fX1_takeSignals_b108 fu a1 a2 a3 n3 r50 v4 M L) := by
  unfold fX1_takeSignals_b108
  exact (kqL2 (fun x15 => (hr50 (x15, M, L) h)))
theorem y_fX1_takeSignals_i50 {P : mwM → mwL → Prop} (hC : CPc2 P) {fu : Nat} {a1 : Int32} {a2 : Int32} {a3 : Nat} {n3 : Nat} {r50 : (Int32 × mwM × mwL) → Option (mwM × mwL)} {v4 : Int32} (hr50 : ∀ s, P s.2.1 s.2.2 → kq2 P (r50 s)) {M : mwM} {L : mwL} (h : P M L) : kq2 P (fX1_takeSignals_i50 fu a1 a2 a3 n3 r50 v4 M L) := by
  unfold fX1_takeSignals_i50
  exact (kqI2 (y_fX1_takeSignals_h117 hC _ (0, M, L) h) (kqB32 (y_DX10_isWatching hC h) (fun r4 M2 L3 h1 => (kqI2 (y_fX1_takeSignals_b108 hC hr50 h1) (kqB32 (y_DX10_signalOf hC h1) (fun r8 M6 L7 h2 => (kqB32 (y_DX6_isIn hC h2) (fun r11 M9 L10 h3 => (kqI2 (y_fX1_takeSignals_b108 hC hr50 h3) (kqB22 (y_DX10_notePassed hC h3) (fun M13 L14 h4 => (y_fX1_takeSignals_b108 hC hr50 h4))))))))))))
theorem y_fX1_takeSignals_h50 {P : mwM → mwL → Prop} (hC : CPc2 P) {fu : Nat} {a1 : Int32} {a2 : Int32} {a3 : Nat} {n3 : Nat} : ∀ n s, P s.2.1 s.2.2 → kq2 P (fX1_takeSignals_h50 fu a1 a2 a3 n3 n s) := by
  intro n
  induction n with
  | zero => intro s _; exact kqN2
  | succ n ih =>
    intro s h
    show kq2 P (fX1_takeSignals_i50 fu a1 a2 a3 n3 (fX1_takeSignals_h50 fu a1 a2 a3 n3 n) s.1 s.2.1 s.2.2)
    exact y_fX1_takeSignals_i50 hC ih h
theorem y_fX1_takeSignals_b47 {P : mwM → mwL → Prop} (hC : CPc2 P) {fu : Nat} {a1 : Int32} {a2 : Int32} {a3 : Nat} {n3 : Nat} {M : mwM} {L : mwL} (h : P M L) : kq2 P (fX1_takeSignals_b47 fu a1 a2 a3 n3 M L) := by
  unfold fX1_takeSignals_b47
  exact (y_fX1_takeSignals_h50 hC _ (0, M, L) h)
theorem y_DX1_takeSignals {P : mwM → mwL → Prop} (hC : CPc2 P) {fu : Nat} {a1 : Int32} {a2 : Int32} {a3 : Nat} {n3 : Nat} {M : mwM} {L : mwL} (h : P M L) : kq2 P (DX1_takeSignals fu a1 a2 a3 n3 M L) := by
  unfold DX1_takeSignals
  exact (kqI2 (kqK2 (fun q1 => (kqI2 (y_fX1_takeSignals_b47 hC h) (kqB32 (y_DX6_accept hC h) (fun r41 M39 L40 h2 => (kqI2 (kqM2_c2 hC h2 (by omega) (fun M45 h3 => (kqS2 h3))) (y_fX1_takeSignals_b47 hC h2))))))) (kqS2 h))
theorem y_fX1_takeFrames_b107 {P : mwM → mwL → Prop} (hC : CPc2 P) {fu : Nat} {r2 : (Int32 × mwM × mwL) → Option (mwM × mwL)} {v1 : Int32} (hr2 : ∀ s, P s.2.1 s.2.2 → kq2 P (r2 s)) {M : mwM} {L : mwL} (h : P M L) : kq2 P (fX1_takeFrames_b107 fu r2 v1 M L) := by
  unfold fX1_takeFrames_b107
  exact (kqL2 (fun x18 => (hr2 (x18, M, L) h)))
theorem y_fX1_takeFrames_i2 {P : mwM → mwL → Prop} (hC : CPc2 P) {fu : Nat} {r2 : (Int32 × mwM × mwL) → Option (mwM × mwL)} {v1 : Int32} (hr2 : ∀ s, P s.2.1 s.2.2 → kq2 P (r2 s)) {M : mwM} {L : mwL} (h : P M L) : kq2 P (fX1_takeFrames_i2 fu r2 v1 M L) := by
  unfold fX1_takeFrames_i2
  exact (kqI2 (kqS2 h) (kqK2 (fun q1 => (kqI2 (y_fX1_takeFrames_b107 hC hr2 h) (kqB32 (y_DX5_kind hC h) (fun r6 M4 L5 h2 => (kqI2 (kqI2 (kqI2 (kqI2 (y_fX1_takeFrames_b107 hC hr2 h2) (kqB32 (y_DX6_frameOf hC h2) (fun r13 M11 L12 h3 => (kqB22 (y_DX1_takeSignals hC h3) (fun M14 L15 h4 => (y_fX1_takeFrames_b107 hC hr2 h4)))))) (kqB22 (y_DX1_takeOfTransfer hC h2) (fun M16 L17 h5 => (y_fX1_takeFrames_b107 hC hr2 h5)))) (y_fX1_takeFrames_b107 hC hr2 h2)) (y_fX1_takeFrames_b107 hC hr2 h2))))))))
theorem y_fX1_takeFrames_h2 {P : mwM → mwL → Prop} (hC : CPc2 P) {fu : Nat} : ∀ n s, P s.2.1 s.2.2 → kq2 P (fX1_takeFrames_h2 fu n s) := by
  intro n
  induction n with
  | zero => intro s _; exact kqN2
  | succ n ih =>
    intro s h
    show kq2 P (fX1_takeFrames_i2 fu (fX1_takeFrames_h2 fu n) s.1 s.2.1 s.2.2)
    exact y_fX1_takeFrames_i2 hC ih h
theorem y_DX1_takeFrames {P : mwM → mwL → Prop} (hC : CPc2 P) {fu : Nat} {M : mwM} {L : mwL} (h : P M L) : kq2 P (DX1_takeFrames fu M L) := by
  unfold DX1_takeFrames
  exact (y_fX1_takeFrames_h2 hC _ (0, M, L) h)
theorem y_fX1_putOnBus_b102 {P : mwM → mwL → Prop} (hC : CPc2 P) {fu : Nat} {a1 : Int32} {M : mwM} {L : mwL} (h : P M L) : kq2 P (fX1_putOnBus_b102 fu a1 M L) := by
  unfold fX1_putOnBus_b102
  exact (kqS2 h)
theorem y_fX1_putOnBus_b69 {P : mwM → mwL → Prop} (hC : CPc2 P) {fu : Nat} {a1 : Int32} {v4 : Int32} {s1 : Int32} {M : mwM} {L : mwL} (h : P M L) : kq2 P (fX1_putOnBus_b69 fu a1 v4 s1 M L) := by
  unfold fX1_putOnBus_b69
  exact (kqB32 (y_DX0_send hC h) (fun r11 M9 L10 h1 => (kqI2 (kqM2_c2 hC h1 (by omega) (fun M15 h2 => (kqB22 (y_DX9_lose hC h2) (fun M16 L17 h3 => (y_fX1_putOnBus_b102 hC h3))))) (y_fX1_putOnBus_b102 hC h1))))
theorem y_fX1_putOnBus_b42 {P : mwM → mwL → Prop} (hC : CPc2 P) {fu : Nat} {a1 : Int32} {v2 : Int32} {v3 : Int32} {s0 : Int32} {s1 : Int32} {M : mwM} {L : mwL} (h : P M L) : kq2 P (fX1_putOnBus_b42 fu a1 v2 v3 s0 s1 M L) := by
  unfold fX1_putOnBus_b42
  exact (kqL2 (fun x5 => (kqB22 (y_DX9_writeOctets hC h) (fun M6 L7 h1 => (kqI2 (y_fX1_putOnBus_b69 hC h1) (y_fX1_putOnBus_b69 hC h1))))))
theorem y_fX1_putOnBus_b16 {P : mwM → mwL → Prop} (hC : CPc2 P) {fu : Nat} {a1 : Int32} {s0 : Int32} {M : mwM} {L : mwL} (h : P M L) : kq2 P (fX1_putOnBus_b16 fu a1 s0 M L) := by
  unfold fX1_putOnBus_b16
  exact (kqB32 (y_DX9_controllerOf hC h) (fun r3 M1 L2 h1 => (kqI2 (y_fX1_putOnBus_b42 hC h1) (y_fX1_putOnBus_b42 hC h1))))
theorem y_DX1_putOnBus {P : mwM → mwL → Prop} (hC : CPc2 P) {fu : Nat} {a1 : Int32} {M : mwM} {L : mwL} (h : P M L) : kq2 P (DX1_putOnBus fu a1 M L) := by
  unfold DX1_putOnBus
  exact (kqB32 (y_DX9_isToTester hC h) (fun r20 M18 L19 h1 => (kqI2 (y_fX1_putOnBus_b16 hC h1) (y_fX1_putOnBus_b16 hC h1))))
theorem y_fX1_passTransfer_b87 {P : mwM → mwL → Prop} (hC : CPc2 P) {fu : Nat} {M : mwM} {L : mwL} (h : P M L) : kq2 P (fX1_passTransfer_b87 fu M L) := by
  unfold fX1_passTransfer_b87
  exact (kqM2_c2 hC h (by omega) (fun M12 h1 => (kqS2 h1)))
theorem y_fX1_passTransfer_i19 {P : mwM → mwL → Prop} (hC : CPc2 P) {fu : Nat} {r19 : (Int32 × mwM × mwL) → Option (mwM × mwL)} {v1 : Int32} (hr19 : ∀ s, P s.2.1 s.2.2 → kq2 P (r19 s)) {M : mwM} {L : mwL} (h : P M L) : kq2 P (fX1_passTransfer_i19 fu r19 v1 M L) := by
  unfold fX1_passTransfer_i19
  exact (kqI2 (kqM2_c2 hC h (by omega) (fun M2 h1 => (kqI2 (y_fX1_passTransfer_b87 hC h1) (kqI2 (y_fX1_passTransfer_b87 hC h1) (kqM2_c2 hC h1 (by omega) (fun M5 h2 => (kqM2_c2 hC h2 (by omega) (fun M8 h3 => (y_fX1_passTransfer_b87 hC h3))))))))) (kqB22 (y_DX1_putOnBus hC h) (fun M9 L10 h4 => (kqL2 (fun x11 => (hr19 (x11, M9, L10) h4))))))
theorem y_fX1_passTransfer_h19 {P : mwM → mwL → Prop} (hC : CPc2 P) {fu : Nat} : ∀ n s, P s.2.1 s.2.2 → kq2 P (fX1_passTransfer_h19 fu n s) := by
  intro n
  induction n with
  | zero => intro s _; exact kqN2
  | succ n ih =>
    intro s h
    show kq2 P (fX1_passTransfer_i19 fu (fX1_passTransfer_h19 fu n) s.1 s.2.1 s.2.2)
    exact y_fX1_passTransfer_i19 hC ih h
theorem y_DX1_passTransfer {P : mwM → mwL → Prop} (hC : CPc2 P) {fu : Nat} {M : mwM} {L : mwL} (h : P M L) : kq2 P (DX1_passTransfer fu M L) := by
  unfold DX1_passTransfer
  exact (kqB22 (y_DX9_tick hC h) (fun M13 L14 h1 => (kqL2 (fun x15 => (y_fX1_passTransfer_h19 hC _ (x15, M13, L14) h1)))))
theorem y_fX1_passMicrosecond_b122 {P : mwM → mwL → Prop} (hC : CPc2 P) {fu : Nat} {M : mwM} {L : mwL} (h : P M L) : kq2 P (fX1_passMicrosecond_b122 fu M L) := by
  unfold fX1_passMicrosecond_b122
  exact (kqB22 (y_DX10_lookForSilence hC h) (fun M11 L12 h1 => (kqB22 (y_DX1_passTransfer hC h1) (fun M13 L14 h2 => (kqS2 h2)))))
theorem y_fX1_passMicrosecond_b116 {P : mwM → mwL → Prop} (hC : CPc2 P) {fu : Nat} {r56 : (Int32 × mwM × mwL) → Option (mwM × mwL)} {v1 : Int32} (hr56 : ∀ s, P s.2.1 s.2.2 → kq2 P (r56 s)) {M : mwM} {L : mwL} (h : P M L) : kq2 P (fX1_passMicrosecond_b116 fu r56 v1 M L) := by
  unfold fX1_passMicrosecond_b116
  exact (kqL2 (fun x10 => (hr56 (x10, M, L) h)))
theorem y_fX1_passMicrosecond_i56 {P : mwM → mwL → Prop} (hC : CPc2 P) {fu : Nat} {r56 : (Int32 × mwM × mwL) → Option (mwM × mwL)} {v1 : Int32} (hr56 : ∀ s, P s.2.1 s.2.2 → kq2 P (r56 s)) {M : mwM} {L : mwL} (h : P M L) : kq2 P (fX1_passMicrosecond_i56 fu r56 v1 M L) := by
  unfold fX1_passMicrosecond_i56
  exact (kqI2 (y_fX1_passMicrosecond_b122 hC h) (kqI2 (y_fX1_passMicrosecond_b122 hC h) (kqI2 (kqK2 (fun q1 => (kqI2 (y_fX1_passMicrosecond_b116 hC hr56 h) (kqK2 (fun q2 => (kqK2 (fun q3 => (kqB22 (y_DX2_workOff hC (by omega) h) (fun M8 L9 h4 => (y_fX1_passMicrosecond_b116 hC hr56 h4)))))))))) (y_fX1_passMicrosecond_b116 hC hr56 h))))
theorem y_fX1_passMicrosecond_h56 {P : mwM → mwL → Prop} (hC : CPc2 P) {fu : Nat} : ∀ n s, P s.2.1 s.2.2 → kq2 P (fX1_passMicrosecond_h56 fu n s) := by
  intro n
  induction n with
  | zero => intro s _; exact kqN2
  | succ n ih =>
    intro s h
    show kq2 P (fX1_passMicrosecond_i56 fu (fX1_passMicrosecond_h56 fu n) s.1 s.2.1 s.2.2)
    exact y_fX1_passMicrosecond_i56 hC ih h
theorem y_fX1_passMicrosecond_b54 {P : mwM → mwL → Prop} (hC : CPc2 P) {fu : Nat} {M : mwM} {L : mwL} (h : P M L) : kq2 P (fX1_passMicrosecond_b54 fu M L) := by
  unfold fX1_passMicrosecond_b54
  exact (y_fX1_passMicrosecond_h56 hC _ (0, M, L) h)
theorem y_DX1_passMicrosecond {P : mwM → mwL → Prop} (hC : CPc2 P) {fu : Nat} {M : mwM} {L : mwL} (h : P M L) : kq2 P (DX1_passMicrosecond fu M L) := by
  unfold DX1_passMicrosecond
  exact (kqB22 (y_DX1_sendFrames hC h) (fun M15 L16 h1 => (kqB22 (y_DX0_passBit hC h1) (fun M17 L18 h2 => (kqB22 (y_DX4_passMicrosecond hC h2) (fun M19 L20 h3 => (kqM2_c2 hC h3 (by omega) (fun M21 h4 => (kqI2 (y_fX1_passMicrosecond_b54 hC h4) (kqB22 (y_DX1_takeFrames hC h4) (fun M23 L24 h5 => (y_fX1_passMicrosecond_b54 hC h5))))))))))))
theorem y_fX8_append_b50 {P : mwM → mwL → Prop} (hC : CPc2 P) {fu : Nat} {a1 : Int32} {r3 : (Int32 × mwM × mwL) → Option (mwM × mwL)} {v2 : Int32} (hr3 : ∀ s, P s.2.1 s.2.2 → kq2 P (r3 s)) {M : mwM} {L : mwL} (h : P M L) : kq2 P (fX8_append_b50 fu a1 r3 v2 M L) := by
  unfold fX8_append_b50
  exact (kqL2 (fun x8 => (hr3 (x8, M, L) h)))
theorem y_fX8_append_i3 {P : mwM → mwL → Prop} (hC : CPc2 P) {fu : Nat} {a1 : Int32} {r3 : (Int32 × mwM × mwL) → Option (mwM × mwL)} {v2 : Int32} (hr3 : ∀ s, P s.2.1 s.2.2 → kq2 P (r3 s)) {M : mwM} {L : mwL} (h : P M L) : kq2 P (fX8_append_i3 fu a1 r3 v2 M L) := by
  unfold fX8_append_i3
  exact (kqI2 (kqS2 h) (kqL2 (fun x2 => (kqI2 (y_fX8_append_b50 hC hr3 h) (kqI2 (y_fX8_append_b50 hC hr3 h) (kqK2 (fun q1 => (kqM2_c2 hC h (by omega) (fun M6 h2 => (kqM2_c2 hC h2 (by omega) (fun M7 h3 => (y_fX8_append_b50 hC hr3 h3))))))))))))
theorem y_fX8_append_h3 {P : mwM → mwL → Prop} (hC : CPc2 P) {fu : Nat} {a1 : Int32} : ∀ n s, P s.2.1 s.2.2 → kq2 P (fX8_append_h3 fu a1 n s) := by
  intro n
  induction n with
  | zero => intro s _; exact kqN2
  | succ n ih =>
    intro s h
    show kq2 P (fX8_append_i3 fu a1 (fX8_append_h3 fu a1 n) s.1 s.2.1 s.2.2)
    exact y_fX8_append_i3 hC ih h
theorem y_DX8_append {P : mwM → mwL → Prop} (hC : CPc2 P) {fu : Nat} {a1 : Int32} {M : mwM} {L : mwL} (h : P M L) : kq2 P (DX8_append fu a1 M L) := by
  unfold DX8_append
  exact (y_fX8_append_h3 hC _ (24, M, L) h)
theorem y_fX8_findLineEnd_b43 {P : mwM → mwL → Prop} (hC : CPc2 P) {fu : Nat} {a1 : Int32} {M : mwM} {L : mwL} (h : P M L) : kq2 P (fX8_findLineEnd_b43 fu a1 M L) := by
  unfold fX8_findLineEnd_b43
  exact (kqS2 h)
theorem y_fX8_findLineEnd_i5 {P : mwM → mwL → Prop} (hC : CPc2 P) {fu : Nat} {a1 : Int32} {r5 : (mwM × mwL) → Option (mwM × mwL)} (hr5 : ∀ s, P s.1 s.2 → kq2 P (r5 s)) {M : mwM} {L : mwL} (h : P M L) : kq2 P (fX8_findLineEnd_i5 fu a1 r5 M L) := by
  unfold fX8_findLineEnd_i5
  exact (kqI2 (y_fX8_findLineEnd_b43 hC h) (kqK2 (fun q1 => (kqI2 (y_fX8_findLineEnd_b43 hC h) (kqM2_c2 hC h (by omega) (fun M4 h2 => (hr5 (M4, L) h2)))))))
theorem y_fX8_findLineEnd_h5 {P : mwM → mwL → Prop} (hC : CPc2 P) {fu : Nat} {a1 : Int32} : ∀ n s, P s.1 s.2 → kq2 P (fX8_findLineEnd_h5 fu a1 n s) := by
  intro n
  induction n with
  | zero => intro s _; exact kqN2
  | succ n ih =>
    intro s h
    show kq2 P (fX8_findLineEnd_i5 fu a1 (fX8_findLineEnd_h5 fu a1 n) s.1 s.2)
    exact y_fX8_findLineEnd_i5 hC ih h
theorem y_DX8_findLineEnd {P : mwM → mwL → Prop} (hC : CPc2 P) {fu : Nat} {a1 : Int32} {M : mwM} {L : mwL} (h : P M L) : kq2 P (DX8_findLineEnd fu a1 M L) := by
  unfold DX8_findLineEnd
  exact (kqM2_c2 hC h (by omega) (fun M5 h1 => (y_fX8_findLineEnd_h5 hC _ (M5, L) h1)))
theorem y_fX8_nextWord_b63 {P : mwM → mwL → Prop} (hC : CPc2 P) {fu : Nat} {M : mwM} {L : mwL} (h : P M L) : kq2 P (fX8_nextWord_b63 fu M L) := by
  unfold fX8_nextWord_b63
  exact (kqM2_c2 hC h (by omega) (fun M9 h1 => (kqM2_c2 hC h1 (by omega) (fun M10 h2 => (kqS2 h2)))))
theorem y_fX8_nextWord_b123 {P : mwM → mwL → Prop} (hC : CPc2 P) {fu : Nat} {M : mwM} {L : mwL} (h : P M L) : kq2 P (fX8_nextWord_b123 fu M L) := by
  unfold fX8_nextWord_b123
  exact (kqM2_c2 hC h (by omega) (fun M15 h1 => (kqS2 h1)))
theorem y_fX8_nextWord_i85 {P : mwM → mwL → Prop} (hC : CPc2 P) {fu : Nat} {r85 : (mwM × mwL) → Option (mwM × mwL)} (hr85 : ∀ s, P s.1 s.2 → kq2 P (r85 s)) {M : mwM} {L : mwL} (h : P M L) : kq2 P (fX8_nextWord_i85 fu r85 M L) := by
  unfold fX8_nextWord_i85
  exact (kqI2 (y_fX8_nextWord_b123 hC h) (kqK2 (fun q1 => (kqI2 (y_fX8_nextWord_b123 hC h) (kqM2_c2 hC h (by omega) (fun M14 h2 => (hr85 (M14, L) h2)))))))
theorem y_fX8_nextWord_h85 {P : mwM → mwL → Prop} (hC : CPc2 P) {fu : Nat} : ∀ n s, P s.1 s.2 → kq2 P (fX8_nextWord_h85 fu n s) := by
  intro n
  induction n with
  | zero => intro s _; exact kqN2
  | succ n ih =>
    intro s h
    show kq2 P (fX8_nextWord_i85 fu (fX8_nextWord_h85 fu n) s.1 s.2)
    exact y_fX8_nextWord_i85 hC ih h
theorem y_fX8_nextWord_b38 {P : mwM → mwL → Prop} (hC : CPc2 P) {fu : Nat} {M : mwM} {L : mwL} (h : P M L) : kq2 P (fX8_nextWord_b38 fu M L) := by
  unfold fX8_nextWord_b38
  exact (kqI2 (y_fX8_nextWord_b63 hC h) (kqK2 (fun q1 => (kqI2 (y_fX8_nextWord_b63 hC h) (kqM2_c2 hC h (by omega) (fun M8 h2 => (y_fX8_nextWord_h85 hC _ (M8, L) h2)))))))
theorem y_fX8_nextWord_i0 {P : mwM → mwL → Prop} (hC : CPc2 P) {fu : Nat} {r0 : (mwM × mwL) → Option (mwM × mwL)} (hr0 : ∀ s, P s.1 s.2 → kq2 P (r0 s)) {M : mwM} {L : mwL} (h : P M L) : kq2 P (fX8_nextWord_i0 fu r0 M L) := by
  unfold fX8_nextWord_i0
  exact (kqI2 (y_fX8_nextWord_b38 hC h) (kqK2 (fun q1 => (kqI2 (kqM2_c2 hC h (by omega) (fun M4 h2 => (hr0 (M4, L) h2))) (y_fX8_nextWord_b38 hC h)))))
theorem y_fX8_nextWord_h0 {P : mwM → mwL → Prop} (hC : CPc2 P) {fu : Nat} : ∀ n s, P s.1 s.2 → kq2 P (fX8_nextWord_h0 fu n s) := by
  intro n
  induction n with
  | zero => intro s _; exact kqN2
  | succ n ih =>
    intro s h
    show kq2 P (fX8_nextWord_i0 fu (fX8_nextWord_h0 fu n) s.1 s.2)
    exact y_fX8_nextWord_i0 hC ih h
theorem y_DX8_nextWord {P : mwM → mwL → Prop} (hC : CPc2 P) {fu : Nat} {M : mwM} {L : mwL} (h : P M L) : kq2 P (DX8_nextWord fu M L) := by
  unfold DX8_nextWord
  exact (y_fX8_nextWord_h0 hC _ (M, L) h)
theorem y_fX8_standsAt_b41 {P : mwM → mwL → Prop} (hC : CPc2 P) {fu : Nat} {a1 : Nat} {a2 : Int32} {M : mwM} {L : mwL} (h : P M L) : kq3 P (fX8_standsAt_b41 fu a1 a2 M L) := by
  unfold fX8_standsAt_b41
  exact (kqS3 h)
theorem y_fX8_standsAt_i2 {P : mwM → mwL → Prop} (hC : CPc2 P) {fu : Nat} {a1 : Nat} {a2 : Int32} {r2 : (Int32 × mwM × mwL) → Option (Int32 × mwM × mwL)} {v3 : Int32} (hr2 : ∀ s, P s.2.1 s.2.2 → kq3 P (r2 s)) {M : mwM} {L : mwL} (h : P M L) : kq3 P (fX8_standsAt_i2 fu a1 a2 r2 v3 M L) := by
  unfold fX8_standsAt_i2
  exact (kqI3 (kqS3 h) (kqI3 (y_fX8_standsAt_b41 hC h) (kqK3 (fun q1 => (kqK3 (fun q2 => (kqI3 (kqL3 (fun x6 => (hr2 (x6, M, L) h))) (y_fX8_standsAt_b41 hC h))))))))
theorem y_fX8_standsAt_h2 {P : mwM → mwL → Prop} (hC : CPc2 P) {fu : Nat} {a1 : Nat} {a2 : Int32} : ∀ n s, P s.2.1 s.2.2 → kq3 P (fX8_standsAt_h2 fu a1 a2 n s) := by
  intro n
  induction n with
  | zero => intro s _; exact kqN3
  | succ n ih =>
    intro s h
    show kq3 P (fX8_standsAt_i2 fu a1 a2 (fX8_standsAt_h2 fu a1 a2 n) s.1 s.2.1 s.2.2)
    exact y_fX8_standsAt_i2 hC ih h
theorem y_DX8_standsAt {P : mwM → mwL → Prop} (hC : CPc2 P) {fu : Nat} {a1 : Nat} {a2 : Int32} {M : mwM} {L : mwL} (h : P M L) : kq3 P (DX8_standsAt fu a1 a2 M L) := by
  unfold DX8_standsAt
  exact (y_fX8_standsAt_h2 hC _ (0, M, L) h)
theorem y_fX8_indexIn_b66 {P : mwM → mwL → Prop} (hC : CPc2 P) {fu : Nat} {a1 : Nat} {r7 : (Int32 × Int32 × Int32 × mwM × mwL) → Option (Int32 × mwM × mwL)} {v2 : Int32} {v3 : Int32} {v4 : Int32} (hr7 : ∀ s, P s.2.2.2.1 s.2.2.2.2 → kq3 P (r7 s)) {M : mwM} {L : mwL} (h : P M L) : kq3 P (fX8_indexIn_b66 fu a1 r7 v2 v3 v4 M L) := by
  unfold fX8_indexIn_b66
  exact (kqL3 (fun x12 => (hr7 (v2, v3, x12, M, L) h)))
theorem y_fX8_indexIn_b58 {P : mwM → mwL → Prop} (hC : CPc2 P) {fu : Nat} {a1 : Nat} {r7 : (Int32 × Int32 × Int32 × mwM × mwL) → Option (Int32 × mwM × mwL)} {v2 : Int32} {v4 : Int32} (hr7 : ∀ s, P s.2.2.2.1 s.2.2.2.2 → kq3 P (r7 s)) {M : mwM} {L : mwL} (h : P M L) : kq3 P (fX8_indexIn_b58 fu a1 r7 v2 v4 M L) := by
  unfold fX8_indexIn_b58
  exact (kqL3 (fun x10 => (kqL3 (fun x11 => (y_fX8_indexIn_b66 hC hr7 h)))))
theorem y_fX8_indexIn_b36 {P : mwM → mwL → Prop} (hC : CPc2 P) {fu : Nat} {a1 : Nat} {r7 : (Int32 × Int32 × Int32 × mwM × mwL) → Option (Int32 × mwM × mwL)} {v2 : Int32} {v3 : Int32} {v4 : Int32} (hr7 : ∀ s, P s.2.2.2.1 s.2.2.2.2 → kq3 P (r7 s)) {M : mwM} {L : mwL} (h : P M L) : kq3 P (fX8_indexIn_b36 fu a1 r7 v2 v3 v4 M L) := by
  unfold fX8_indexIn_b36
  exact (kqI3 (kqB33 (y_DX8_standsAt hC h) (fun r8 M6 L7 h1 => (kqI3 (y_fX8_indexIn_b58 hC hr7 h1) (kqS3 h1)))) (y_fX8_indexIn_b58 hC hr7 h))
theorem y_fX8_indexIn_i7 {P : mwM → mwL → Prop} (hC : CPc2 P) {fu : Nat} {a1 : Nat} {r7 : (Int32 × Int32 × Int32 × mwM × mwL) → Option (Int32 × mwM × mwL)} {v2 : Int32} {v3 : Int32} {v4 : Int32} (hr7 : ∀ s, P s.2.2.2.1 s.2.2.2.2 → kq3 P (r7 s)) {M : mwM} {L : mwL} (h : P M L) : kq3 P (fX8_indexIn_i7 fu a1 r7 v2 v3 v4 M L) := by
  unfold fX8_indexIn_i7
  exact (kqI3 (kqS3 h) (kqI3 (y_fX8_indexIn_b36 hC hr7 h) (kqK3 (fun q1 => (kqI3 (y_fX8_indexIn_b36 hC hr7 h) (y_fX8_indexIn_b66 hC hr7 h))))))
theorem y_fX8_indexIn_h7 {P : mwM → mwL → Prop} (hC : CPc2 P) {fu : Nat} {a1 : Nat} : ∀ n s, P s.2.2.2.1 s.2.2.2.2 → kq3 P (fX8_indexIn_h7 fu a1 n s) := by
  intro n
  induction n with
  | zero => intro s _; exact kqN3
  | succ n ih =>
    intro s h
    show kq3 P (fX8_indexIn_i7 fu a1 (fX8_indexIn_h7 fu a1 n) s.1 s.2.1 s.2.2.1 s.2.2.2.1 s.2.2.2.2)
    exact y_fX8_indexIn_i7 hC ih h
theorem y_DX8_indexIn {P : mwM → mwL → Prop} (hC : CPc2 P) {fu : Nat} {a1 : Nat} {M : mwM} {L : mwL} (h : P M L) : kq3 P (DX8_indexIn fu a1 M L) := by
  unfold DX8_indexIn
  exact (y_fX8_indexIn_h7 hC _ (0, 0, 0, M, L) h)
theorem y_fX8_isLetter_b17 {P : mwM → mwL → Prop} (hC : CPc2 P) {fu : Nat} {a1 : Int32} {s0 : Int32} {M : mwM} {L : mwL} (h : P M L) : kq3 P (fX8_isLetter_b17 fu a1 s0 M L) := by
  unfold fX8_isLetter_b17
  exact (kq_mzz3 (kqS3 h))
theorem y_fX8_isLetter_b16 {P : mwM → mwL → Prop} (hC : CPc2 P) {fu : Nat} {a1 : Int32} {M : mwM} {L : mwL} (h : P M L) : kq3 P (fX8_isLetter_b16 fu a1 M L) := by
  unfold fX8_isLetter_b16
  exact (y_fX8_isLetter_b17 hC h)
theorem y_DX8_isLetter {P : mwM → mwL → Prop} (hC : CPc2 P) {fu : Nat} {a1 : Int32} {M : mwM} {L : mwL} (h : P M L) : kq3 P (DX8_isLetter fu a1 M L) := by
  unfold DX8_isLetter
  exact (kqI3 (y_fX8_isLetter_b16 hC h) (kqI3 (y_fX8_isLetter_b16 hC h) (y_fX8_isLetter_b17 hC h)))
theorem y_fX8_isDigit_b17 {P : mwM → mwL → Prop} (hC : CPc2 P) {fu : Nat} {a1 : Int32} {s0 : Int32} {M : mwM} {L : mwL} (h : P M L) : kq3 P (fX8_isDigit_b17 fu a1 s0 M L) := by
  unfold fX8_isDigit_b17
  exact (kq_mzz3 (kqS3 h))
theorem y_fX8_isDigit_b16 {P : mwM → mwL → Prop} (hC : CPc2 P) {fu : Nat} {a1 : Int32} {M : mwM} {L : mwL} (h : P M L) : kq3 P (fX8_isDigit_b16 fu a1 M L) := by
  unfold fX8_isDigit_b16
  exact (y_fX8_isDigit_b17 hC h)
theorem y_DX8_isDigit {P : mwM → mwL → Prop} (hC : CPc2 P) {fu : Nat} {a1 : Int32} {M : mwM} {L : mwL} (h : P M L) : kq3 P (DX8_isDigit fu a1 M L) := by
  unfold DX8_isDigit
  exact (kqI3 (y_fX8_isDigit_b16 hC h) (kqI3 (y_fX8_isDigit_b16 hC h) (y_fX8_isDigit_b17 hC h)))
theorem y_fX8_isName_b32 {P : mwM → mwL → Prop} (hC : CPc2 P) {fu : Nat} {M : mwM} {L : mwL} (h : P M L) : kq3 P (fX8_isName_b32 fu M L) := by
  unfold fX8_isName_b32
  exact (kqS3 h)
theorem y_fX8_isName_b80 {P : mwM → mwL → Prop} (hC : CPc2 P) {fu : Nat} {r36 : (Int32 × mwM × mwL) → Option (Int32 × mwM × mwL)} {v1 : Int32} (hr36 : ∀ s, P s.2.1 s.2.2 → kq3 P (r36 s)) {M : mwM} {L : mwL} (h : P M L) : kq3 P (fX8_isName_b80 fu r36 v1 M L) := by
  unfold fX8_isName_b80
  exact (kqL3 (fun x12 => (hr36 (x12, M, L) h)))
theorem y_fX8_isName_i36 {P : mwM → mwL → Prop} (hC : CPc2 P) {fu : Nat} {r36 : (Int32 × mwM × mwL) → Option (Int32 × mwM × mwL)} {v1 : Int32} (hr36 : ∀ s, P s.2.1 s.2.2 → kq3 P (r36 s)) {M : mwM} {L : mwL} (h : P M L) : kq3 P (fX8_isName_i36 fu r36 v1 M L) := by
  unfold fX8_isName_i36
  exact (kqI3 (kqS3 h) (kqK3 (fun q1 => (kqB33 (y_DX8_isLetter hC h) (fun r5 M3 L4 h2 => (kqI3 (kqK3 (fun q3 => (kqB33 (y_DX8_isDigit hC h2) (fun r10 M8 L9 h4 => (kqI3 (kqS3 h4) (y_fX8_isName_b80 hC hr36 h4)))))) (y_fX8_isName_b80 hC hr36 h2)))))))
