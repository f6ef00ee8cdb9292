/-! FRAMES: printed by frp.py -/
theorem y_fX8_isName_h36 {P : mwM → mwL → Prop} (hC : CPc2 P) {fu : Nat} : ∀ n s, P s.2.1 s.2.2 → kq3 P (fX8_isName_h36 fu n s) := by
  intro n
  induction n with
  | zero => intro s _; exact kqN3
  | succ n ih =>
    intro s h
    show kq3 P (fX8_isName_i36 fu (fX8_isName_h36 fu n) s.1 s.2.1 s.2.2)
    exact y_fX8_isName_i36 hC ih h
theorem y_DX8_isName {P : mwM → mwL → Prop} (hC : CPc2 P) {fu : Nat} {M : mwM} {L : mwL} (h : P M L) : kq3 P (DX8_isName fu M L) := by
  unfold DX8_isName
  exact (kqI3 (y_fX8_isName_b32 hC h) (kqI3 (y_fX8_isName_b32 hC h) (kqK3 (fun q1 => (kqB33 (y_DX8_isLetter hC h) (fun r18 M16 L17 h2 => (kqI3 (y_fX8_isName_b32 hC h2) (y_fX8_isName_h36 hC _ (1, M16, L17) h2))))))))
theorem y_fX8_isWord_b25 {P : mwM → mwL → Prop} (hC : CPc2 P) {fu : Nat} {a1 : Nat} {s0 : Int32} {M : mwM} {L : mwL} (h : P M L) : kq3 P (fX8_isWord_b25 fu a1 s0 M L) := by
  unfold fX8_isWord_b25
  exact (kq_mzz3 (kqS3 h))
theorem y_fX8_isWord_b24 {P : mwM → mwL → Prop} (hC : CPc2 P) {fu : Nat} {a1 : Nat} {M : mwM} {L : mwL} (h : P M L) : kq3 P (fX8_isWord_b24 fu a1 M L) := by
  unfold fX8_isWord_b24
  exact (y_fX8_isWord_b25 hC h)
theorem y_DX8_isWord {P : mwM → mwL → Prop} (hC : CPc2 P) {fu : Nat} {a1 : Nat} {M : mwM} {L : mwL} (h : P M L) : kq3 P (DX8_isWord fu a1 M L) := by
  unfold DX8_isWord
  exact (kqI3 (kqB33 (y_DX8_standsAt hC h) (fun r5 M3 L4 h1 => (kqI3 (y_fX8_isWord_b24 hC h1) (y_fX8_isWord_b25 hC h1)))) (y_fX8_isWord_b24 hC h))
theorem y_fX8_isSame_i2 {P : mwM → mwL → Prop} (hC : CPc2 P) {fu : Nat} {a1 : Int32} {r2 : (Int32 × mwM × mwL) → Option (Int32 × mwM × mwL)} {v2 : Int32} (hr2 : ∀ s, P s.2.1 s.2.2 → kq3 P (r2 s)) {M : mwM} {L : mwL} (h : P M L) : kq3 P (fX8_isSame_i2 fu a1 r2 v2 M L) := by
  unfold fX8_isSame_i2
  exact (kqI3 (kqS3 h) (kqK3 (fun q1 => (kqK3 (fun q2 => (kqI3 (kqL3 (fun x5 => (hr2 (x5, M, L) h))) (kqS3 h)))))))
theorem y_fX8_isSame_h2 {P : mwM → mwL → Prop} (hC : CPc2 P) {fu : Nat} {a1 : Int32} : ∀ n s, P s.2.1 s.2.2 → kq3 P (fX8_isSame_h2 fu a1 n s) := by
  intro n
  induction n with
  | zero => intro s _; exact kqN3
  | succ n ih =>
    intro s h
    show kq3 P (fX8_isSame_i2 fu a1 (fX8_isSame_h2 fu a1 n) s.1 s.2.1 s.2.2)
    exact y_fX8_isSame_i2 hC ih h
theorem y_DX8_isSame {P : mwM → mwL → Prop} (hC : CPc2 P) {fu : Nat} {a1 : Int32} {M : mwM} {L : mwL} (h : P M L) : kq3 P (DX8_isSame fu a1 M L) := by
  unfold DX8_isSame
  exact (y_fX8_isSame_h2 hC _ (0, M, L) h)
theorem y_fX8_findName_b54 {P : mwM → mwL → Prop} (hC : CPc2 P) {fu : Nat} {a1 : Int32} {r2 : (Int32 × mwM × mwL) → Option (Int32 × mwM × mwL)} {v2 : Int32} (hr2 : ∀ s, P s.2.1 s.2.2 → kq3 P (r2 s)) {M : mwM} {L : mwL} (h : P M L) : kq3 P (fX8_findName_b54 fu a1 r2 v2 M L) := by
  unfold fX8_findName_b54
  exact (kqL3 (fun x14 => (hr2 (x14, M, L) h)))
theorem y_fX8_findName_i2 {P : mwM → mwL → Prop} (hC : CPc2 P) {fu : Nat} {a1 : Int32} {r2 : (Int32 × mwM × mwL) → Option (Int32 × mwM × mwL)} {v2 : Int32} (hr2 : ∀ s, P s.2.1 s.2.2 → kq3 P (r2 s)) {M : mwM} {L : mwL} (h : P M L) : kq3 P (fX8_findName_i2 fu a1 r2 v2 M L) := by
  unfold fX8_findName_i2
  exact (kqI3 (kqS3 h) (kqK3 (fun q1 => (kqI3 (kqK3 (fun q2 => (kqI3 (kqK3 (fun q3 => (kqB33 (y_DX8_isSame hC h) (fun r12 M10 L11 h4 => (kqI3 (y_fX8_findName_b54 hC hr2 h4) (kqS3 h4)))))) (y_fX8_findName_b54 hC hr2 h)))) (y_fX8_findName_b54 hC hr2 h)))))
theorem y_fX8_findName_h2 {P : mwM → mwL → Prop} (hC : CPc2 P) {fu : Nat} {a1 : Int32} : ∀ n s, P s.2.1 s.2.2 → kq3 P (fX8_findName_h2 fu a1 n s) := by
  intro n
  induction n with
  | zero => intro s _; exact kqN3
  | succ n ih =>
    intro s h
    show kq3 P (fX8_findName_i2 fu a1 (fX8_findName_h2 fu a1 n) s.1 s.2.1 s.2.2)
    exact y_fX8_findName_i2 hC ih h
theorem y_DX8_findName {P : mwM → mwL → Prop} (hC : CPc2 P) {fu : Nat} {a1 : Int32} {M : mwM} {L : mwL} (h : P M L) : kq3 P (DX8_findName fu a1 M L) := by
  unfold DX8_findName
  exact (y_fX8_findName_h2 hC _ (0, M, L) h)
theorem y_fX8_newName_b96 {P : mwM → mwL → Prop} (hC : CPc2 P) {fu : Nat} {a1 : Int32} {a2 : Int32} {a3 : Int32} {M : mwM} {L : mwL} (h : P M L) : kq2 P (fX8_newName_b96 fu a1 a2 a3 M L) := by
  unfold fX8_newName_b96
  exact (kqS2 h)
theorem y_fX8_newName_b49 {P : mwM → mwL → Prop} (hC : CPc2 P) {fu : Nat} {a1 : Int32} {a2 : Int32} {a3 : Int32} {M : mwM} {L : mwL} (h : P M L) : kq2 P (fX8_newName_b49 fu a1 a2 a3 M L) := by
  unfold fX8_newName_b49
  exact (kqB22 (hC.2.2 _ _ _ _ _ (by decide) h) (fun M1 L2 h1 => (y_fX8_newName_b96 hC h1)))
theorem y_fX8_newName_b61 {P : mwM → mwL → Prop} (hC : CPc2 P) {fu : Nat} {a1 : Int32} {a2 : Int32} {a3 : Int32} {M : mwM} {L : mwL} (h : P M L) : kq2 P (fX8_newName_b61 fu a1 a2 a3 M L) := by
  unfold fX8_newName_b61
  exact (kqB32 (y_DX8_findName hC h) (fun r5 M3 L4 h1 => (kqI2 (kqI2 (y_fX8_newName_b96 hC h1) (kqB22 (hC.2.2 _ _ _ _ _ (by decide) h1) (fun M8 L9 h2 => (y_fX8_newName_b96 hC h2)))) (kqB22 (hC.2.2 _ _ _ _ _ (by decide) h1) (fun M10 L11 h3 => (y_fX8_newName_b96 hC h3))))))
theorem y_DX8_newName {P : mwM → mwL → Prop} (hC : CPc2 P) {fu : Nat} {a1 : Int32} {a2 : Int32} {a3 : Int32} {M : mwM} {L : mwL} (h : P M L) : kq2 P (DX8_newName fu a1 a2 a3 M L) := by
  unfold DX8_newName
  exact (kqI2 (kqB22 (y_DX8_nextWord hC h) (fun M13 L14 h1 => (kqM2_c2 hC h1 (by omega) (fun M15 h2 => (kqM2_c2 hC h2 (by omega) (fun M16 h3 => (kqB32 (y_DX8_isName hC h3) (fun r19 M17 L18 h4 => (kqI2 (y_fX8_newName_b49 hC h4) (kqI2 (y_fX8_newName_b61 hC h4) (kqB32 (y_DX8_isWord hC h4) (fun r24 M22 L23 h5 => (kqI2 (y_fX8_newName_b61 hC h5) (y_fX8_newName_b49 hC h5)))))))))))))) (kqS2 h))
theorem y_fX8_endLine_b28 {P : mwM → mwL → Prop} (hC : CPc2 P) {fu : Nat} {M : mwM} {L : mwL} (h : P M L) : kq2 P (fX8_endLine_b28 fu M L) := by
  unfold fX8_endLine_b28
  exact (kqS2 h)
theorem y_DX8_endLine {P : mwM → mwL → Prop} (hC : CPc2 P) {fu : Nat} {M : mwM} {L : mwL} (h : P M L) : kq2 P (DX8_endLine fu M L) := by
  unfold DX8_endLine
  exact (kqI2 (kqB22 (y_DX8_nextWord hC h) (fun M2 L3 h1 => (kqI2 (y_fX8_endLine_b28 hC h1) (kqB22 (hC.2.2 _ _ _ _ _ (by decide) h1) (fun M5 L6 h2 => (y_fX8_endLine_b28 hC h2)))))) (kqS2 h))
theorem y_fX8_keepName_b17 {P : mwM → mwL → Prop} (hC : CPc2 P) {fu : Nat} {a1 : Int32} {a2 : Int32} {a3 : Int32} {M : mwM} {L : mwL} (h : P M L) : kq2 P (fX8_keepName_b17 fu a1 a2 a3 M L) := by
  unfold fX8_keepName_b17
  exact (kqS2 h)
theorem y_DX8_keepName {P : mwM → mwL → Prop} (hC : CPc2 P) {fu : Nat} {a1 : Int32} {a2 : Int32} {a3 : Int32} {M : mwM} {L : mwL} (h : P M L) : kq2 P (DX8_keepName fu a1 a2 a3 M L) := by
  unfold DX8_keepName
  exact (kqI2 (kqI2 (kqK2 (fun q1 => (kqM2_c2 hC h (by omega) (fun M5 h2 => (kqK2 (fun q3 => (kqM2_c2 hC h2 (by omega) (fun M8 h4 => (kqK2 (fun q5 => (kqM2_c2 hC h4 (by omega) (fun M11 h6 => (kqK2 (fun q7 => (kqM2_c2 hC h6 (by omega) (fun M14 h8 => (kqK2 (fun q9 => (kqM2_c2 hC h8 (by omega) (fun M17 h10 => (kqM2_c2 hC h10 (by omega) (fun M18 h11 => (kqS2 h11))))))))))))))))))))))) (y_fX8_keepName_b17 hC h)) (y_fX8_keepName_b17 hC h))
theorem y_fX8_readController_b51 {P : mwM → mwL → Prop} (hC : CPc2 P) {fu : Nat} {M : mwM} {L : mwL} (h : P M L) : kq2 P (fX8_readController_b51 fu M L) := by
  unfold fX8_readController_b51
  exact (kqS2 h)
theorem y_DX8_readController {P : mwM → mwL → Prop} (hC : CPc2 P) {fu : Nat} {M : mwM} {L : mwL} (h : P M L) : kq2 P (DX8_readController fu M L) := by
  unfold DX8_readController
  exact (kqB22 (y_DX8_newName hC h) (fun M1 L2 h1 => (kqB22 (y_DX8_endLine hC h1) (fun M3 L4 h2 => (kqI2 (kqB22 (y_DX8_keepName hC h2) (fun M6 L7 h3 => (kqM2_c2 hC h3 (by omega) (fun M8 h4 => (y_fX8_readController_b51 hC h4))))) (y_fX8_readController_b51 hC h2))))))
theorem y_fX8_fetchWord_b41 {P : mwM → mwL → Prop} (hC : CPc2 P) {fu : Nat} {s0 : Int32} {M : mwM} {L : mwL} (h : P M L) : kq3 P (fX8_fetchWord_b41 fu s0 M L) := by
  unfold fX8_fetchWord_b41
  exact (kq_mzz3 (kqS3 h))
theorem y_fX8_fetchWord_b29 {P : mwM → mwL → Prop} (hC : CPc2 P) {fu : Nat} {M : mwM} {L : mwL} (h : P M L) : kq3 P (fX8_fetchWord_b29 fu M L) := by
  unfold fX8_fetchWord_b29
  exact (kqI3 (y_fX8_fetchWord_b41 hC h) (y_fX8_fetchWord_b41 hC h))
theorem y_DX8_fetchWord {P : mwM → mwL → Prop} (hC : CPc2 P) {fu : Nat} {M : mwM} {L : mwL} (h : P M L) : kq3 P (DX8_fetchWord fu M L) := by
  unfold DX8_fetchWord
  exact (kqI3 (kqB23 (y_DX8_nextWord hC h) (fun M4 L5 h1 => (kqI3 (kqB23 (hC.2.2 _ _ _ _ _ (by decide) h1) (fun M7 L8 h2 => (y_fX8_fetchWord_b29 hC h2))) (y_fX8_fetchWord_b29 hC h1)))) (kqS3 h))
theorem y_fX8_toldName_b31 {P : mwM → mwL → Prop} (hC : CPc2 P) {fu : Nat} {a1 : Int32} {a2 : Int32} {M : mwM} {L : mwL} (h : P M L) : kq3 P (fX8_toldName_b31 fu a1 a2 M L) := by
  unfold fX8_toldName_b31
  exact (kqB23 (hC.2.2 _ _ _ _ _ (by decide) h) (fun M1 L2 h1 => (kqS3 h1)))
theorem y_DX8_toldName {P : mwM → mwL → Prop} (hC : CPc2 P) {fu : Nat} {a1 : Int32} {a2 : Int32} {M : mwM} {L : mwL} (h : P M L) : kq3 P (DX8_toldName fu a1 a2 M L) := by
  unfold DX8_toldName
  exact (kqB33 (y_DX8_fetchWord hC h) (fun r5 M3 L4 h1 => (kqI3 (kqS3 h1) (kqB33 (y_DX8_findName hC h1) (fun r9 M7 L8 h2 => (kqI3 (y_fX8_toldName_b31 hC h2) (kqK3 (fun q3 => (kqI3 (kqK3 (fun q4 => (kqS3 h2))) (y_fX8_toldName_b31 hC h2))))))))))
theorem y_fX8_isNumber_b48 {P : mwM → mwL → Prop} (hC : CPc2 P) {fu : Nat} {M : mwM} {L : mwL} (h : P M L) : kq3 P (fX8_isNumber_b48 fu M L) := by
  unfold fX8_isNumber_b48
  exact (kqS3 h)
theorem y_fX8_isNumber_i52 {P : mwM → mwL → Prop} (hC : CPc2 P) {fu : Nat} {r52 : (Int32 × mwM × mwL) → Option (Int32 × mwM × mwL)} {v2 : Int32} (hr52 : ∀ s, P s.2.1 s.2.2 → kq3 P (r52 s)) {M : mwM} {L : mwL} (h : P M L) : kq3 P (fX8_isNumber_i52 fu r52 v2 M L) := by
  unfold fX8_isNumber_i52
  exact (kqI3 (kqS3 h) (kqK3 (fun q1 => (kqB33 (y_DX8_isDigit hC h) (fun r7 M5 L6 h2 => (kqI3 (kqS3 h2) (kqL3 (fun x9 => (hr52 (x9, M5, L6) h2)))))))))
theorem y_fX8_isNumber_h52 {P : mwM → mwL → Prop} (hC : CPc2 P) {fu : Nat} : ∀ n s, P s.2.1 s.2.2 → kq3 P (fX8_isNumber_h52 fu n s) := by
  intro n
  induction n with
  | zero => intro s _; exact kqN3
  | succ n ih =>
    intro s h
    show kq3 P (fX8_isNumber_i52 fu (fX8_isNumber_h52 fu n) s.1 s.2.1 s.2.2)
    exact y_fX8_isNumber_i52 hC ih h
theorem y_fX8_isNumber_b26 {P : mwM → mwL → Prop} (hC : CPc2 P) {fu : Nat} {s0 : Int32} {M : mwM} {L : mwL} (h : P M L) : kq3 P (fX8_isNumber_b26 fu s0 M L) := by
  unfold fX8_isNumber_b26
  exact (kqI3 (y_fX8_isNumber_b48 hC h) (kqI3 (y_fX8_isNumber_h52 hC _ (s0, M, L) h) (y_fX8_isNumber_b48 hC h)))
theorem y_fX8_isNumber_b25 {P : mwM → mwL → Prop} (hC : CPc2 P) {fu : Nat} {M : mwM} {L : mwL} (h : P M L) : kq3 P (fX8_isNumber_b25 fu M L) := by
  unfold fX8_isNumber_b25
  exact (y_fX8_isNumber_b26 hC h)
theorem y_DX8_isNumber {P : mwM → mwL → Prop} (hC : CPc2 P) {fu : Nat} {M : mwM} {L : mwL} (h : P M L) : kq3 P (DX8_isNumber fu M L) := by
  unfold DX8_isNumber
  exact (kqI3 (y_fX8_isNumber_b25 hC h) (kqK3 (fun q1 => (kqI3 (y_fX8_isNumber_b26 hC h) (y_fX8_isNumber_b25 hC h)))))
theorem y_fX8_numberAtHand_b69 {P : mwM → mwL → Prop} (hC : CPc2 P) {fu : Nat} {s0 : Int32} {M : mwM} {L : mwL} (h : P M L) : kq3 P (fX8_numberAtHand_b69 fu s0 M L) := by
  unfold fX8_numberAtHand_b69
  exact (kqS3 h)
theorem y_fX8_numberAtHand_i24 {P : mwM → mwL → Prop} (hC : CPc2 P) {fu : Nat} {r24 : (Int32 × Int32 × Int32 × mwM × mwL) → Option (Int32 × mwM × mwL)} {v1 : Int32} {v2 : Int32} {v3 : Int32} (hr24 : ∀ s, P s.2.2.2.1 s.2.2.2.2 → kq3 P (r24 s)) {M : mwM} {L : mwL} (h : P M L) : kq3 P (fX8_numberAtHand_i24 fu r24 v1 v2 v3 M L) := by
  unfold fX8_numberAtHand_i24
  exact (kqI3 (kqI3 (y_fX8_numberAtHand_b69 hC h) (y_fX8_numberAtHand_b69 hC h)) (kqK3 (fun q1 => (kqL3 (fun x4 => (kqL3 (fun x5 => (hr24 (v1, x4, x5, M, L) h))))))))
theorem y_fX8_numberAtHand_h24 {P : mwM → mwL → Prop} (hC : CPc2 P) {fu : Nat} : ∀ n s, P s.2.2.2.1 s.2.2.2.2 → kq3 P (fX8_numberAtHand_h24 fu n s) := by
  intro n
  induction n with
  | zero => intro s _; exact kqN3
  | succ n ih =>
    intro s h
    show kq3 P (fX8_numberAtHand_i24 fu (fX8_numberAtHand_h24 fu n) s.1 s.2.1 s.2.2.1 s.2.2.2.1 s.2.2.2.2)
    exact y_fX8_numberAtHand_i24 hC ih h
theorem y_fX8_numberAtHand_b19 {P : mwM → mwL → Prop} (hC : CPc2 P) {fu : Nat} {s0 : Int32} {M : mwM} {L : mwL} (h : P M L) : kq3 P (fX8_numberAtHand_b19 fu s0 M L) := by
  unfold fX8_numberAtHand_b19
  exact (y_fX8_numberAtHand_h24 hC _ (s0, 0, s0, M, L) h)
theorem y_DX8_numberAtHand {P : mwM → mwL → Prop} (hC : CPc2 P) {fu : Nat} {M : mwM} {L : mwL} (h : P M L) : kq3 P (DX8_numberAtHand fu M L) := by
  unfold DX8_numberAtHand
  exact (kqK3 (fun q1 => (kqI3 (y_fX8_numberAtHand_b19 hC h) (y_fX8_numberAtHand_b19 hC h))))
theorem y_fX8_boundedNumber_b33 {P : mwM → mwL → Prop} (hC : CPc2 P) {fu : Nat} {a1 : Int32} {a2 : Int32} {M : mwM} {L : mwL} (h : P M L) : kq3 P (fX8_boundedNumber_b33 fu a1 a2 M L) := by
  unfold fX8_boundedNumber_b33
  exact (kqB23 (hC.2.2 _ _ _ _ _ (by decide) h) (fun M7 L8 h1 => (kqS3 h1)))
theorem y_fX8_boundedNumber_b15 {P : mwM → mwL → Prop} (hC : CPc2 P) {fu : Nat} {a1 : Int32} {a2 : Int32} {s0 : Int32} {M : mwM} {L : mwL} (h : P M L) : kq3 P (fX8_boundedNumber_b15 fu a1 a2 s0 M L) := by
  unfold fX8_boundedNumber_b15
  exact (kqB33 (y_DX8_isNumber hC h) (fun r3 M1 L2 h1 => (kqI3 (y_fX8_boundedNumber_b33 hC h1) (kqI3 (y_fX8_boundedNumber_b33 hC h1) (kqI3 (kqS3 h1) (y_fX8_boundedNumber_b33 hC h1))))))
theorem y_DX8_boundedNumber {P : mwM → mwL → Prop} (hC : CPc2 P) {fu : Nat} {a1 : Int32} {a2 : Int32} {M : mwM} {L : mwL} (h : P M L) : kq3 P (DX8_boundedNumber fu a1 a2 M L) := by
  unfold DX8_boundedNumber
  exact (kqB33 (y_DX8_isNumber hC h) (fun r11 M9 L10 h1 => (kqI3 (y_fX8_boundedNumber_b15 hC h1) (kqB33 (y_DX8_numberAtHand hC h1) (fun r15 M13 L14 h2 => (y_fX8_boundedNumber_b15 hC h2))))))
theorem y_fX8_number_b17 {P : mwM → mwL → Prop} (hC : CPc2 P) {fu : Nat} {a1 : Int32} {a2 : Int32} {s0 : Int32} {M : mwM} {L : mwL} (h : P M L) : kq3 P (fX8_number_b17 fu a1 a2 s0 M L) := by
  unfold fX8_number_b17
  exact (kqS3 h)
theorem y_DX8_number {P : mwM → mwL → Prop} (hC : CPc2 P) {fu : Nat} {a1 : Int32} {a2 : Int32} {M : mwM} {L : mwL} (h : P M L) : kq3 P (DX8_number fu a1 a2 M L) := by
  unfold DX8_number
  exact (kqB33 (y_DX8_fetchWord hC h) (fun r3 M1 L2 h1 => (kqI3 (y_fX8_number_b17 hC h1) (kqB33 (y_DX8_boundedNumber hC h1) (fun r7 M5 L6 h2 => (y_fX8_number_b17 hC h2))))))
theorem y_fX8_readTask_b108 {P : mwM → mwL → Prop} (hC : CPc2 P) {fu : Nat} {M : mwM} {L : mwL} (h : P M L) : kq2 P (fX8_readTask_b108 fu M L) := by
  unfold fX8_readTask_b108
  exact (kqS2 h)
theorem y_DX8_readTask {P : mwM → mwL → Prop} (hC : CPc2 P) {fu : Nat} {M : mwM} {L : mwL} (h : P M L) : kq2 P (DX8_readTask fu M L) := by
  unfold DX8_readTask
  exact (kqB22 (y_DX8_newName hC h) (fun M1 L2 h1 => (kqB32 (y_DX8_toldName hC h1) (fun r5 M3 L4 h2 => (kqB32 (y_DX8_number hC h2) (fun r8 M6 L7 h3 => (kqB32 (y_DX8_number hC h3) (fun r11 M9 L10 h4 => (kqB32 (y_DX8_number hC h4) (fun r14 M12 L13 h5 => (kqB32 (y_DX8_number hC h5) (fun r17 M15 L16 h6 => (kqB22 (y_DX8_endLine hC h6) (fun M18 L19 h7 => (kqI2 (kqB22 (y_DX8_keepName hC h7) (fun M21 L22 h8 => (kqB22 (y_DX4_addTask hC h8) (fun M23 L24 h9 => (y_fX8_readTask_b108 hC h9))))) (y_fX8_readTask_b108 hC h7))))))))))))))))
theorem y_fX8_readChart_b93 {P : mwM → mwL → Prop} (hC : CPc2 P) {fu : Nat} {M : mwM} {L : mwL} (h : P M L) : kq2 P (fX8_readChart_b93 fu M L) := by
  unfold fX8_readChart_b93
  exact (kqS2 h)
theorem y_fX8_readChart_b64 {P : mwM → mwL → Prop} (hC : CPc2 P) {fu : Nat} {v1 : Int32} {v3 : Int32} {M : mwM} {L : mwL} (h : P M L) : kq2 P (fX8_readChart_b64 fu v1 v3 M L) := by
  unfold fX8_readChart_b64
  exact (kqI2 (kqB22 (y_DX8_keepName hC h) (fun M2 L3 h1 => (kqB22 (y_DX1_addChart hC h1) (fun M4 L5 h2 => (y_fX8_readChart_b93 hC h2))))) (y_fX8_readChart_b93 hC h))
theorem y_DX8_readChart {P : mwM → mwL → Prop} (hC : CPc2 P) {fu : Nat} {M : mwM} {L : mwL} (h : P M L) : kq2 P (DX8_readChart fu M L) := by
  unfold DX8_readChart
  exact (kqB22 (y_DX8_newName hC h) (fun M6 L7 h1 => (kqB32 (y_DX8_toldName hC h1) (fun r10 M8 L9 h2 => (kqL2 (fun x11 => (kqB32 (y_DX8_number hC h2) (fun r14 M12 L13 h3 => (kqB22 (y_DX8_endLine hC h3) (fun M15 L16 h4 => (kqI2 (kqK2 (fun q5 => (kqI2 (y_fX8_readChart_b64 hC h4) (kqB22 (hC.2.2 _ _ _ _ _ (by decide) h4) (fun M20 L21 h6 => (y_fX8_readChart_b64 hC h6)))))) (y_fX8_readChart_b64 hC h4))))))))))))
theorem y_DX8_statesOf {P : mwM → mwL → Prop} (hC : CPc2 P) {fu : Nat} {a1 : Int32} {M : mwM} {L : mwL} (h : P M L) : kq3 P (DX8_statesOf fu a1 M L) := by
  unfold DX8_statesOf
  exact (kqS3 h)
theorem y_fX8_parentState_b17 {P : mwM → mwL → Prop} (hC : CPc2 P) {fu : Nat} {a1 : Int32} {M : mwM} {L : mwL} (h : P M L) : kq3 P (fX8_parentState_b17 fu a1 M L) := by
  unfold fX8_parentState_b17
  exact (kqS3 h)
theorem y_DX8_parentState {P : mwM → mwL → Prop} (hC : CPc2 P) {fu : Nat} {a1 : Int32} {M : mwM} {L : mwL} (h : P M L) : kq3 P (DX8_parentState fu a1 M L) := by
  unfold DX8_parentState
  exact (kqB33 (y_DX8_fetchWord hC h) (fun r3 M1 L2 h1 => (kqI3 (y_fX8_parentState_b17 hC h1) (kqB33 (y_DX8_isWord hC h1) (fun r7 M5 L6 h2 => (kqI3 (kqB33 (y_DX8_statesOf hC h2) (fun r11 M9 L10 h3 => (kqB33 (y_DX8_findName hC h3) (fun r14 M12 L13 h4 => (kqI3 (kqK3 (fun q5 => (kqS3 h4))) (kqB23 (hC.2.2 _ _ _ _ _ (by decide) h4) (fun M18 L19 h6 => (kqS3 h6)))))))) (y_fX8_parentState_b17 hC h2)))))))
theorem y_DX8_oneOf {P : mwM → mwL → Prop} (hC : CPc2 P) {fu : Nat} {a1 : Nat} {M : mwM} {L : mwL} (h : P M L) : kq3 P (DX8_oneOf fu a1 M L) := by
  unfold DX8_oneOf
  exact (kqB33 (y_DX8_fetchWord hC h) (fun r3 M1 L2 h1 => (kqI3 (kqS3 h1) (kqB33 (y_DX8_indexIn hC h1) (fun r7 M5 L6 h2 => (kqI3 (kqS3 h2) (kqB23 (hC.2.2 _ _ _ _ _ (by decide) h2) (fun M9 L10 h3 => (kqS3 h3)))))))))
theorem y_fX8_heed_b25 {P : mwM → mwL → Prop} (hC : CPc2 P) {fu : Nat} {a1 : Int32} {M : mwM} {L : mwL} (h : P M L) : kq2 P (fX8_heed_b25 fu a1 M L) := by
  unfold fX8_heed_b25
  exact (kqS2 h)
theorem y_fX8_heed_b18 {P : mwM → mwL → Prop} (hC : CPc2 P) {fu : Nat} {a1 : Int32} {s1 : Int32} (hz_s1 : s1 ≠ 0) {M : mwM} {L : mwL} (h : P M L) : kq2 P (fX8_heed_b18 fu a1 s1 M L) := by
  unfold fX8_heed_b18
  exact (kqB22 (hC.2.2 _ _ _ _ _ hz_s1 h) (fun M1 L2 h1 => (y_fX8_heed_b25 hC h1)))
theorem y_DX8_heed {P : mwM → mwL → Prop} (hC : CPc2 P) {fu : Nat} {a1 : Int32} {M : mwM} {L : mwL} (h : P M L) : kq2 P (DX8_heed fu a1 M L) := by
  unfold DX8_heed
  exact (kqI2 (y_fX8_heed_b25 hC h) (kqI2 (y_fX8_heed_b18 hC (by decide) h) (y_fX8_heed_b18 hC (by decide) h)))
theorem y_fX8_readState_b74 {P : mwM → mwL → Prop} (hC : CPc2 P) {fu : Nat} {M : mwM} {L : mwL} (h : P M L) : kq2 P (fX8_readState_b74 fu M L) := by
  unfold fX8_readState_b74
  exact (kqS2 h)
theorem y_DX8_readState {P : mwM → mwL → Prop} (hC : CPc2 P) {fu : Nat} {M : mwM} {L : mwL} (h : P M L) : kq2 P (DX8_readState fu M L) := by
  unfold DX8_readState
  exact (kqB32 (y_DX8_toldName hC h) (fun r3 M1 L2 h1 => (kqB32 (y_DX8_statesOf hC h1) (fun r6 M4 L5 h2 => (kqB22 (y_DX8_newName hC h2) (fun M7 L8 h3 => (kqB32 (y_DX8_parentState hC h3) (fun r11 M9 L10 h4 => (kqB32 (y_DX8_oneOf hC h4) (fun r14 M12 L13 h5 => (kqB22 (y_DX8_endLine hC h5) (fun M15 L16 h6 => (kqI2 (kqK2 (fun q7 => (kqB32 (y_DX2_addState hC (by omega) h6) (fun r21 M19 L20 h8 => (kqB22 (y_DX8_heed hC h8) (fun M22 L23 h9 => (kqB32 (y_DX8_statesOf hC h9) (fun r26 M24 L25 h10 => (kqB22 (y_DX8_keepName hC h10) (fun M27 L28 h11 => (y_fX8_readState_b74 hC h11))))))))))) (y_fX8_readState_b74 hC h6))))))))))))))
theorem y_fX8_eventOrTime_b34 {P : mwM → mwL → Prop} (hC : CPc2 P) {fu : Nat} {a1 : Int32} {s0 : Int32} {M : mwM} {L : mwL} (h : P M L) : kq3 P (fX8_eventOrTime_b34 fu a1 s0 M L) := by
  unfold fX8_eventOrTime_b34
  exact (kqS3 h)
theorem y_DX8_eventOrTime {P : mwM → mwL → Prop} (hC : CPc2 P) {fu : Nat} {a1 : Int32} {M : mwM} {L : mwL} (h : P M L) : kq3 P (DX8_eventOrTime fu a1 M L) := by
  unfold DX8_eventOrTime
  exact (kqB33 (y_DX8_fetchWord hC h) (fun r3 M1 L2 h1 => (kqI3 (kqS3 h1) (kqB33 (y_DX8_isWord hC h1) (fun r7 M5 L6 h2 => (kqI3 (kqB33 (y_DX8_boundedNumber hC h2) (fun r11 M9 L10 h3 => (y_fX8_eventOrTime_b34 hC h3))) (y_fX8_eventOrTime_b34 hC h2)))))))
theorem y_fX8_optional_b56 {P : mwM → mwL → Prop} (hC : CPc2 P) {fu : Nat} {a1 : Nat} {s0 : Int32} {M : mwM} {L : mwL} (h : P M L) : kq3 P (fX8_optional_b56 fu a1 s0 M L) := by
  unfold fX8_optional_b56
  exact (kq_mzz3 (kqS3 h))
theorem y_fX8_optional_b55 {P : mwM → mwL → Prop} (hC : CPc2 P) {fu : Nat} {a1 : Nat} {M : mwM} {L : mwL} (h : P M L) : kq3 P (fX8_optional_b55 fu a1 M L) := by
  unfold fX8_optional_b55
  exact (y_fX8_optional_b56 hC h)
theorem y_fX8_optional_b37 {P : mwM → mwL → Prop} (hC : CPc2 P) {fu : Nat} {a1 : Nat} {M : mwM} {L : mwL} (h : P M L) : kq3 P (fX8_optional_b37 fu a1 M L) := by
  unfold fX8_optional_b37
  exact (kqI3 (y_fX8_optional_b55 hC h) (kqI3 (y_fX8_optional_b56 hC h) (y_fX8_optional_b55 hC h)))
theorem y_DX8_optional {P : mwM → mwL → Prop} (hC : CPc2 P) {fu : Nat} {a1 : Nat} {M : mwM} {L : mwL} (h : P M L) : kq3 P (DX8_optional fu a1 M L) := by
  unfold DX8_optional
  exact (kqI3 (kqB23 (y_DX8_nextWord hC h) (fun M5 L6 h1 => (kqI3 (y_fX8_optional_b37 hC h1) (kqB33 (y_DX8_isWord hC h1) (fun r10 M8 L9 h2 => (kqI3 (kqB23 (hC.2.2 _ _ _ _ _ (by decide) h2) (fun M12 L13 h3 => (y_fX8_optional_b37 hC h3))) (y_fX8_optional_b37 hC h2))))))) (kqS3 h))
theorem y_DX8_dataOf {P : mwM → mwL → Prop} (hC : CPc2 P) {fu : Nat} {a1 : Int32} {M : mwM} {L : mwL} (h : P M L) : kq3 P (DX8_dataOf fu a1 M L) := by
  unfold DX8_dataOf
  exact (kqS3 h)
theorem y_DX8_otherOperand {P : mwM → mwL → Prop} (hC : CPc2 P) {fu : Nat} {a1 : Int32} {M : mwM} {L : mwL} (h : P M L) : kq3 P (DX8_otherOperand fu a1 M L) := by
  unfold DX8_otherOperand
  exact (kqB33 (y_DX8_fetchWord hC h) (fun r3 M1 L2 h1 => (kqI3 (kqS3 h1) (kqB33 (y_DX8_dataOf hC h1) (fun r7 M5 L6 h2 => (kqB33 (y_DX8_findName hC h2) (fun r10 M8 L9 h3 => (kqI3 (kqB33 (y_DX8_isNumber hC h3) (fun r14 M12 L13 h4 => (kqI3 (kqB23 (hC.2.2 _ _ _ _ _ (by decide) h4) (fun M19 L20 h5 => (kqS3 h5))) (kqB33 (y_DX8_boundedNumber hC h4) (fun r18 M16 L17 h6 => (kqS3 h6)))))) (kqK3 (fun q7 => (kqS3 h3)))))))))))
theorem y_fX8_readEdge_b116 {P : mwM → mwL → Prop} (hC : CPc2 P) {fu : Nat} {M : mwM} {L : mwL} (h : P M L) : kq2 P (fX8_readEdge_b116 fu M L) := by
  unfold fX8_readEdge_b116
  exact (kqS2 h)
theorem y_fX8_readEdge_b83 {P : mwM → mwL → Prop} (hC : CPc2 P) {fu : Nat} {v1 : Int32} {v2 : Int32} {v3 : Int32} {v4 : Int32} {v5 : Int32} {M : mwM} {L : mwL} (h : P M L) : kq2 P (fX8_readEdge_b83 fu v1 v2 v3 v4 v5 M L) := by
  unfold fX8_readEdge_b83
  exact (kqB22 (y_DX8_endLine hC h) (fun M1 L2 h1 => (kqI2 (kqK2 (fun q2 => (kqB32 (y_DX2_addEdge hC (by omega) h1) (fun r7 M5 L6 h3 => (kqB22 (y_DX8_heed hC h3) (fun M8 L9 h4 => (y_fX8_readEdge_b116 hC h4))))))) (y_fX8_readEdge_b116 hC h1))))
theorem y_DX8_readEdge {P : mwM → mwL → Prop} (hC : CPc2 P) {fu : Nat} {M : mwM} {L : mwL} (h : P M L) : kq2 P (DX8_readEdge fu M L) := by
  unfold DX8_readEdge
  exact (kqB32 (y_DX8_toldName hC h) (fun r12 M10 L11 h1 => (kqB32 (y_DX8_statesOf hC h1) (fun r15 M13 L14 h2 => (kqB32 (y_DX8_toldName hC h2) (fun r18 M16 L17 h3 => (kqB32 (y_DX8_statesOf hC h3) (fun r21 M19 L20 h4 => (kqB32 (y_DX8_toldName hC h4) (fun r24 M22 L23 h5 => (kqB32 (y_DX8_eventOrTime hC h5) (fun r27 M25 L26 h6 => (kqB32 (y_DX8_optional hC h6) (fun r30 M28 L29 h7 => (kqI2 (y_fX8_readEdge_b83 hC h7) (kqB32 (y_DX8_dataOf hC h7) (fun r34 M32 L33 h8 => (kqB32 (y_DX8_toldName hC h8) (fun r37 M35 L36 h9 => (kqB32 (y_DX8_oneOf hC h9) (fun r40 M38 L39 h10 => (kqL2 (fun x41 => (kqB32 (y_DX8_otherOperand hC h10) (fun r44 M42 L43 h11 => (kqL2 (fun x45 => (y_fX8_readEdge_b83 hC h11))))))))))))))))))))))))))))
theorem y_fX8_readAfter_b55 {P : mwM → mwL → Prop} (hC : CPc2 P) {fu : Nat} {M : mwM} {L : mwL} (h : P M L) : kq2 P (fX8_readAfter_b55 fu M L) := by
  unfold fX8_readAfter_b55
  exact (kqS2 h)
theorem y_DX8_readAfter {P : mwM → mwL → Prop} (hC : CPc2 P) {fu : Nat} {M : mwM} {L : mwL} (h : P M L) : kq2 P (DX8_readAfter fu M L) := by
  unfold DX8_readAfter
  exact (kqB32 (y_DX8_toldName hC h) (fun r3 M1 L2 h1 => (kqB32 (y_DX8_statesOf hC h1) (fun r6 M4 L5 h2 => (kqB32 (y_DX8_toldName hC h2) (fun r9 M7 L8 h3 => (kqB32 (y_DX8_number hC h3) (fun r12 M10 L11 h4 => (kqB22 (y_DX8_endLine hC h4) (fun M13 L14 h5 => (kqI2 (kqK2 (fun q6 => (kqB32 (y_DX2_setTicks hC (by omega) h5) (fun r19 M17 L18 h7 => (kqB22 (y_DX8_heed hC h7) (fun M20 L21 h8 => (y_fX8_readAfter_b55 hC h8))))))) (y_fX8_readAfter_b55 hC h5))))))))))))
theorem y_fX8_readDatum_b66 {P : mwM → mwL → Prop} (hC : CPc2 P) {fu : Nat} {M : mwM} {L : mwL} (h : P M L) : kq2 P (fX8_readDatum_b66 fu M L) := by
  unfold fX8_readDatum_b66
  exact (kqS2 h)
theorem y_DX8_readDatum {P : mwM → mwL → Prop} (hC : CPc2 P) {fu : Nat} {M : mwM} {L : mwL} (h : P M L) : kq2 P (DX8_readDatum fu M L) := by
  unfold DX8_readDatum
  exact (kqB32 (y_DX8_toldName hC h) (fun r3 M1 L2 h1 => (kqB32 (y_DX8_dataOf hC h1) (fun r6 M4 L5 h2 => (kqB22 (y_DX8_newName hC h2) (fun M7 L8 h3 => (kqB32 (y_DX8_number hC h3) (fun r11 M9 L10 h4 => (kqB22 (y_DX8_endLine hC h4) (fun M12 L13 h5 => (kqI2 (kqK2 (fun q6 => (kqB32 (y_DX2_addDatum hC (by omega) h5) (fun r18 M16 L17 h7 => (kqB22 (y_DX8_heed hC h7) (fun M19 L20 h8 => (kqB32 (y_DX8_dataOf hC h8) (fun r23 M21 L22 h9 => (kqB22 (y_DX8_keepName hC h9) (fun M24 L25 h10 => (y_fX8_readDatum_b66 hC h10))))))))))) (y_fX8_readDatum_b66 hC h5))))))))))))
theorem y_fX8_readAct_b101 {P : mwM → mwL → Prop} (hC : CPc2 P) {fu : Nat} {a1 : Int32} {M : mwM} {L : mwL} (h : P M L) : kq2 P (fX8_readAct_b101 fu a1 M L) := by
  unfold fX8_readAct_b101
  exact (kqS2 h)
theorem y_fX8_readAct_b36 {P : mwM → mwL → Prop} (hC : CPc2 P) {fu : Nat} {a1 : Int32} {v2 : Int32} {s0 : Int32} {M : mwM} {L : mwL} (h : P M L) : kq2 P (fX8_readAct_b36 fu a1 v2 s0 M L) := by
  unfold fX8_readAct_b36
  exact (kqB32 (y_DX8_dataOf hC h) (fun r3 M1 L2 h1 => (kqB32 (y_DX8_toldName hC h1) (fun r6 M4 L5 h2 => (kqB32 (y_DX8_number hC h2) (fun r9 M7 L8 h3 => (kqB32 (y_DX8_optional hC h3) (fun r12 M10 L11 h4 => (kqB22 (y_DX8_endLine hC h4) (fun M13 L14 h5 => (kqI2 (kqK2 (fun q6 => (kqB32 (y_DX2_addAct hC (by omega) h5) (fun r19 M17 L18 h7 => (kqB22 (y_DX8_heed hC h7) (fun M20 L21 h8 => (y_fX8_readAct_b101 hC h8))))))) (y_fX8_readAct_b101 hC h5))))))))))))
theorem y_DX8_readAct {P : mwM → mwL → Prop} (hC : CPc2 P) {fu : Nat} {a1 : Int32} {M : mwM} {L : mwL} (h : P M L) : kq2 P (DX8_readAct fu a1 M L) := by
  unfold DX8_readAct
  exact (kqB32 (y_DX8_toldName hC h) (fun r24 M22 L23 h1 => (kqI2 (kqK2 (fun q2 => (y_fX8_readAct_b36 hC h1))) (kqB32 (y_DX8_statesOf hC h1) (fun r28 M26 L27 h3 => (kqB32 (y_DX8_toldName hC h3) (fun r31 M29 L30 h4 => (y_fX8_readAct_b36 hC h4))))))))
theorem y_fX8_readSignal_b122 {P : mwM → mwL → Prop} (hC : CPc2 P) {fu : Nat} {M : mwM} {L : mwL} (h : P M L) : kq2 P (fX8_readSignal_b122 fu M L) := by
  unfold fX8_readSignal_b122
  exact (kqS2 h)
theorem y_DX8_readSignal {P : mwM → mwL → Prop} (hC : CPc2 P) {fu : Nat} {M : mwM} {L : mwL} (h : P M L) : kq2 P (DX8_readSignal fu M L) := by
  unfold DX8_readSignal
  exact (kqB22 (y_DX8_newName hC h) (fun M1 L2 h1 => (kqB32 (y_DX8_number hC h1) (fun r5 M3 L4 h2 => (kqB32 (y_DX8_toldName hC h2) (fun r8 M6 L7 h3 => (kqB32 (y_DX8_dataOf hC h3) (fun r11 M9 L10 h4 => (kqB32 (y_DX8_toldName hC h4) (fun r14 M12 L13 h5 => (kqB32 (y_DX8_number hC h5) (fun r17 M15 L16 h6 => (kqB32 (y_DX8_optional hC h6) (fun r20 M18 L19 h7 => (kqB22 (y_DX8_endLine hC h7) (fun M21 L22 h8 => (kqI2 (kqB22 (y_DX8_keepName hC h8) (fun M24 L25 h9 => (kqK2 (fun q10 => (kqB22 (y_DX6_addSignal hC h9) (fun M27 L28 h11 => (y_fX8_readSignal_b122 hC h11))))))) (y_fX8_readSignal_b122 hC h8))))))))))))))))))
theorem y_fX8_readProtect_b85 {P : mwM → mwL → Prop} (hC : CPc2 P) {fu : Nat} {M : mwM} {L : mwL} (h : P M L) : kq2 P (fX8_readProtect_b85 fu M L) := by
  unfold fX8_readProtect_b85
  exact (kqS2 h)
theorem y_fX8_readProtect_b64 {P : mwM → mwL → Prop} (hC : CPc2 P) {fu : Nat} {v1 : Int32} {v2 : Int32} {v4 : Int32} {M : mwM} {L : mwL} (h : P M L) : kq2 P (fX8_readProtect_b64 fu v1 v2 v4 M L) := by
  unfold fX8_readProtect_b64
  exact (kqI2 (kqB22 (y_DX6_addKey hC h) (fun M2 L3 h1 => (y_fX8_readProtect_b85 hC h1))) (y_fX8_readProtect_b85 hC h))
theorem y_DX8_readProtect {P : mwM → mwL → Prop} (hC : CPc2 P) {fu : Nat} {M : mwM} {L : mwL} (h : P M L) : kq2 P (DX8_readProtect fu M L) := by
  unfold DX8_readProtect
  exact (kqB32 (y_DX8_toldName hC h) (fun r6 M4 L5 h1 => (kqB32 (y_DX8_number hC h1) (fun r9 M7 L8 h2 => (kqL2 (fun x10 => (kqB32 (y_DX8_number hC h2) (fun r13 M11 L12 h3 => (kqB22 (y_DX8_endLine hC h3) (fun M14 L15 h4 => (kqI2 (kqB32 (y_DX6_keyOf hC h4) (fun r19 M17 L18 h5 => (kqI2 (y_fX8_readProtect_b64 hC h5) (kqB22 (hC.2.2 _ _ _ _ _ (by decide) h5) (fun M21 L22 h6 => (y_fX8_readProtect_b64 hC h6)))))) (y_fX8_readProtect_b64 hC h4))))))))))))
theorem y_fX8_refuseOwn_b35 {P : mwM → mwL → Prop} (hC : CPc2 P) {fu : Nat} {a1 : Int32} {a2 : Int32} {M : mwM} {L : mwL} (h : P M L) : kq2 P (fX8_refuseOwn_b35 fu a1 a2 M L) := by
  unfold fX8_refuseOwn_b35
  exact (kqS2 h)
theorem y_DX8_refuseOwn {P : mwM → mwL → Prop} (hC : CPc2 P) {fu : Nat} {a1 : Int32} {a2 : Int32} {M : mwM} {L : mwL} (h : P M L) : kq2 P (DX8_refuseOwn fu a1 a2 M L) := by
  unfold DX8_refuseOwn
  exact (kqI2 (kqK2 (fun q1 => (kqI2 (kqB22 (hC.2.2 _ _ _ _ _ (by decide) h) (fun M5 L6 h2 => (y_fX8_refuseOwn_b35 hC h2))) (y_fX8_refuseOwn_b35 hC h)))) (y_fX8_refuseOwn_b35 hC h))
theorem y_fX8_readRead_b77 {P : mwM → mwL → Prop} (hC : CPc2 P) {fu : Nat} {M : mwM} {L : mwL} (h : P M L) : kq2 P (fX8_readRead_b77 fu M L) := by
  unfold fX8_readRead_b77
  exact (kqS2 h)
theorem y_DX8_readRead {P : mwM → mwL → Prop} (hC : CPc2 P) {fu : Nat} {M : mwM} {L : mwL} (h : P M L) : kq2 P (DX8_readRead fu M L) := by
  unfold DX8_readRead
  exact (kqB32 (y_DX8_toldName hC h) (fun r3 M1 L2 h1 => (kqB32 (y_DX8_toldName hC h1) (fun r6 M4 L5 h2 => (kqB32 (y_DX8_dataOf hC h2) (fun r9 M7 L8 h3 => (kqB32 (y_DX8_toldName hC h3) (fun r12 M10 L11 h4 => (kqB32 (y_DX8_number hC h4) (fun r15 M13 L14 h5 => (kqB22 (y_DX8_endLine hC h5) (fun M16 L17 h6 => (kqK2 (fun q7 => (kqB22 (y_DX8_refuseOwn hC h6) (fun M19 L20 h8 => (kqI2 (kqB32 (y_DX1_addRead hC h8) (fun r24 M22 L23 h9 => (kqB22 (y_DX8_heed hC h9) (fun M25 L26 h10 => (y_fX8_readRead_b77 hC h10))))) (y_fX8_readRead_b77 hC h8))))))))))))))))))
theorem y_fX8_readWatch_b77 {P : mwM → mwL → Prop} (hC : CPc2 P) {fu : Nat} {M : mwM} {L : mwL} (h : P M L) : kq2 P (fX8_readWatch_b77 fu M L) := by
  unfold fX8_readWatch_b77
  exact (kqS2 h)
theorem y_DX8_readWatch {P : mwM → mwL → Prop} (hC : CPc2 P) {fu : Nat} {M : mwM} {L : mwL} (h : P M L) : kq2 P (DX8_readWatch fu M L) := by
  unfold DX8_readWatch
  exact (kqB32 (y_DX8_toldName hC h) (fun r3 M1 L2 h1 => (kqB32 (y_DX8_toldName hC h1) (fun r6 M4 L5 h2 => (kqB32 (y_DX8_number hC h2) (fun r9 M7 L8 h3 => (kqB22 (y_DX8_endLine hC h3) (fun M10 L11 h4 => (kqB22 (y_DX8_refuseOwn hC h4) (fun M12 L13 h5 => (kqI2 (kqK2 (fun q6 => (kqL2 (fun x17 => (kqB32 (y_DX10_addWatch hC h5) (fun r20 M18 L19 h7 => (kqB22 (y_DX8_heed hC h7) (fun M21 L22 h8 => (y_fX8_readWatch_b77 hC h8))))))))) (y_fX8_readWatch_b77 hC h5))))))))))))
theorem y_fX8_readLine_b186 {P : mwM → mwL → Prop} (hC : CPc2 P) {fu : Nat} {M : mwM} {L : mwL} (h : P M L) : kq2 P (fX8_readLine_b186 fu M L) := by
  unfold fX8_readLine_b186
  exact (kqS2 h)
theorem y_DX8_readLine {P : mwM → mwL → Prop} (hC : CPc2 P) {fu : Nat} {M : mwM} {L : mwL} (h : P M L) : kq2 P (DX8_readLine fu M L) := by
  unfold DX8_readLine
  exact (kqB32 (y_DX8_indexIn hC h) (fun r3 M1 L2 h1 => (kqL2 (fun x4 => (kqI2 (kqB22 (y_DX8_readController hC h1) (fun M6 L7 h2 => (y_fX8_readLine_b186 hC h2))) (kqI2 (kqB22 (y_DX8_readTask hC h1) (fun M9 L10 h3 => (y_fX8_readLine_b186 hC h3))) (kqI2 (kqB22 (y_DX8_readChart hC h1) (fun M12 L13 h4 => (y_fX8_readLine_b186 hC h4))) (kqI2 (kqB22 (y_DX8_readState hC h1) (fun M15 L16 h5 => (y_fX8_readLine_b186 hC h5))) (kqI2 (kqB22 (y_DX8_readEdge hC h1) (fun M18 L19 h6 => (y_fX8_readLine_b186 hC h6))) (kqI2 (kqB22 (y_DX8_readAfter hC h1) (fun M21 L22 h7 => (y_fX8_readLine_b186 hC h7))) (kqI2 (kqB22 (y_DX8_readDatum hC h1) (fun M24 L25 h8 => (y_fX8_readLine_b186 hC h8))) (kqI2 (kqB22 (y_DX8_readAct hC h1) (fun M27 L28 h9 => (y_fX8_readLine_b186 hC h9))) (kqI2 (kqB22 (y_DX8_readAct hC h1) (fun M30 L31 h10 => (y_fX8_readLine_b186 hC h10))) (kqI2 (kqB22 (y_DX8_readAct hC h1) (fun M33 L34 h11 => (y_fX8_readLine_b186 hC h11))) (kqI2 (kqB22 (y_DX8_readSignal hC h1) (fun M36 L37 h12 => (y_fX8_readLine_b186 hC h12))) (kqI2 (kqB22 (y_DX8_readProtect hC h1) (fun M39 L40 h13 => (y_fX8_readLine_b186 hC h13))) (kqI2 (kqB22 (y_DX8_readRead hC h1) (fun M42 L43 h14 => (y_fX8_readLine_b186 hC h14))) (kqI2 (kqB22 (y_DX8_readWatch hC h1) (fun M45 L46 h15 => (y_fX8_readLine_b186 hC h15))) (kqB22 (hC.2.2 _ _ _ _ _ (by decide) h1) (fun M47 L48 h16 => (y_fX8_readLine_b186 hC h16)))))))))))))))))))))
theorem y_fX8_judgeWhole_b63 {P : mwM → mwL → Prop} (hC : CPc2 P) {fu : Nat} {M : mwM} {L : mwL} (h : P M L) : kq2 P (fX8_judgeWhole_b63 fu M L) := by
  unfold fX8_judgeWhole_b63
  exact (kqS2 h)
theorem y_DX8_judgeWhole {P : mwM → mwL → Prop} (hC : CPc2 P) {fu : Nat} {M : mwM} {L : mwL} (h : P M L) : kq2 P (DX8_judgeWhole fu M L) := by
  unfold DX8_judgeWhole
  exact (kqI2 (kqB22 (hC.2.2 _ _ _ _ _ (by decide) h) (fun M10 L11 h1 => (kqS2 h1))) (kqB32 (y_DX6_findTooLarge hC h) (fun r4 M2 L3 h2 => (kqI2 (y_fX8_judgeWhole_b63 hC h2) (kqK2 (fun q3 => (kqB22 (hC.2.2 _ _ _ _ _ (by decide) h2) (fun M8 L9 h4 => (y_fX8_judgeWhole_b63 hC h4)))))))))
theorem y_fX8_readText_b98 {P : mwM → mwL → Prop} (hC : CPc2 P) {fu : Nat} {M : mwM} {L : mwL} (h : P M L) : kq2 P (fX8_readText_b98 fu M L) := by
  unfold fX8_readText_b98
  exact (kqS2 h)
theorem y_fX8_readText_b87 {P : mwM → mwL → Prop} (hC : CPc2 P) {fu : Nat} {M : mwM} {L : mwL} (h : P M L) : kq2 P (fX8_readText_b87 fu M L) := by
  unfold fX8_readText_b87
  exact (kqI2 (kqB22 (y_DX8_judgeWhole hC h) (fun M16 L17 h1 => (y_fX8_readText_b98 hC h1))) (y_fX8_readText_b98 hC h))
theorem y_fX8_readText_b74 {P : mwM → mwL → Prop} (hC : CPc2 P) {fu : Nat} {r19 : (Int32 × Int32 × mwM × mwL) → Option (mwM × mwL)} {v2 : Int32} (hr19 : ∀ s, P s.2.2.1 s.2.2.2 → kq2 P (r19 s)) {M : mwM} {L : mwL} (h : P M L) : kq2 P (fX8_readText_b74 fu r19 v2 M L) := by
  unfold fX8_readText_b74
  exact (kqL2 (fun x13 => (kqL2 (fun x14 => (hr19 (x13, x14, M, L) h)))))
theorem y_fX8_readText_i19 {P : mwM → mwL → Prop} (hC : CPc2 P) {fu : Nat} {r19 : (Int32 × Int32 × mwM × mwL) → Option (mwM × mwL)} {v1 : Int32} {v2 : Int32} (hr19 : ∀ s, P s.2.2.1 s.2.2.2 → kq2 P (r19 s)) {M : mwM} {L : mwL} (h : P M L) : kq2 P (fX8_readText_i19 fu r19 v1 v2 M L) := by
  unfold fX8_readText_i19
  exact (kqI2 (y_fX8_readText_b87 hC h) (kqI2 (y_fX8_readText_b87 hC h) (kqI2 (kqB22 (y_DX8_findLineEnd hC h) (fun M4 L5 h1 => (kqM2_c2 hC h1 (by omega) (fun M6 h2 => (kqB22 (y_DX8_nextWord hC h2) (fun M7 L8 h3 => (kqM2_c2 hC h3 (by omega) (fun M9 h4 => (kqI2 (y_fX8_readText_b74 hC hr19 h4) (kqB22 (y_DX8_readLine hC h4) (fun M11 L12 h5 => (y_fX8_readText_b74 hC hr19 h5)))))))))))) (y_fX8_readText_b87 hC h))))
theorem y_fX8_readText_h19 {P : mwM → mwL → Prop} (hC : CPc2 P) {fu : Nat} : ∀ n s, P s.2.2.1 s.2.2.2 → kq2 P (fX8_readText_h19 fu n s) := by
  intro n
  induction n with
  | zero => intro s _; exact kqN2
  | succ n ih =>
    intro s h
    show kq2 P (fX8_readText_i19 fu (fX8_readText_h19 fu n) s.1 s.2.1 s.2.2.1 s.2.2.2)
    exact y_fX8_readText_i19 hC ih h
theorem y_DX8_readText {P : mwM → mwL → Prop} (hC : CPc1 P) {fu : Nat} {M : mwM} {L : mwL} (h : P M L) : kq2 P (DX8_readText fu M L) := by
  unfold DX8_readText
  exact (kqM2_c1 hC h (by omega) (fun M18 h1 => (kqM2_c1 hC h1 (by omega) (fun M19 h2 => (kqM2_c1 hC h2 (by omega) (fun M20 h3 => (y_fX8_readText_h19 (c12 hC) _ (0, 0, M20, L) h3)))))))
theorem y_fX11_lettersIn_b25 {P : mwM → mwL → Prop} (hC : CPc2 P) {fu : Nat} {a1 : Int32} {r5 : (Int32 × Int32 × mwM × mwL) → Option (Int32 × mwM × mwL)} {v2 : Int32} {s0 : Int32} {s1 : Int32} (hr5 : ∀ s, P s.2.2.1 s.2.2.2 → kq3 P (r5 s)) {M : mwM} {L : mwL} (h : P M L) : kq3 P (fX11_lettersIn_b25 fu a1 r5 v2 s0 s1 M L) := by
  unfold fX11_lettersIn_b25
  exact (kqL3 (fun x3 => (kqL3 (fun x4 => (hr5 (x3, x4, M, L) h)))))
theorem y_fX11_lettersIn_i5 {P : mwM → mwL → Prop} (hC : CPc2 P) {fu : Nat} {a1 : Int32} {r5 : (Int32 × Int32 × mwM × mwL) → Option (Int32 × mwM × mwL)} {v1 : Int32} {v2 : Int32} (hr5 : ∀ s, P s.2.2.1 s.2.2.2 → kq3 P (r5 s)) {M : mwM} {L : mwL} (h : P M L) : kq3 P (fX11_lettersIn_i5 fu a1 r5 v1 v2 M L) := by
  unfold fX11_lettersIn_i5
  exact (kqI3 (kqS3 h) (kqI3 (y_fX11_lettersIn_b25 hC hr5 h) (y_fX11_lettersIn_b25 hC hr5 h)))
theorem y_fX11_lettersIn_h5 {P : mwM → mwL → Prop} (hC : CPc2 P) {fu : Nat} {a1 : Int32} : ∀ n s, P s.2.2.1 s.2.2.2 → kq3 P (fX11_lettersIn_h5 fu a1 n s) := by
  intro n
  induction n with
  | zero => intro s _; exact kqN3
  | succ n ih =>
    intro s h
    show kq3 P (fX11_lettersIn_i5 fu a1 (fX11_lettersIn_h5 fu a1 n) s.1 s.2.1 s.2.2.1 s.2.2.2)
    exact y_fX11_lettersIn_i5 hC ih h
theorem y_DX11_lettersIn {P : mwM → mwL → Prop} (hC : CPc2 P) {fu : Nat} {a1 : Int32} {M : mwM} {L : mwL} (h : P M L) : kq3 P (DX11_lettersIn fu a1 M L) := by
  unfold DX11_lettersIn
  exact (y_fX11_lettersIn_h5 hC _ (0, 24, M, L) h)
theorem y_DX11_text {P : mwM → mwL → Prop} (hC : CPc2 P) {fu : Nat} {a1 : Int32} {a2 : Int32} {a3 : Int32} {a4 : Int32} {M : mwM} {L : mwL} (h : P M L) : kq3 P (DX11_text fu a1 a2 a3 a4 M L) := by
  unfold DX11_text
  exact (kqB33 (y_DX11_lettersIn hC h) (fun r3 M1 L2 h1 => (kqB33 (y_DX11_lettersIn hC h1) (fun r6 M4 L5 h2 => (kqB33 (y_DX11_lettersIn hC h2) (fun r9 M7 L8 h3 => (kqB33 (y_DX11_lettersIn hC h3) (fun r12 M10 L11 h4 => (kqI3 (kqB23 (y_DX8_append hC h4) (fun M14 L15 h5 => (kqB23 (y_DX8_append hC h5) (fun M16 L17 h6 => (kqB23 (y_DX8_append hC h6) (fun M18 L19 h7 => (kqB23 (y_DX8_append hC h7) (fun M20 L21 h8 => (kqS3 h8))))))))) (kqS3 h4))))))))))
theorem y_fX11_cut_b15 {P : mwM → mwL → Prop} (hC : CPc2 P) {fu : Nat} {a1 : Int32} {M : mwM} {L : mwL} (h : P M L) : kq3 P (fX11_cut_b15 fu a1 M L) := by
  unfold fX11_cut_b15
  exact (kqS3 h)
theorem y_DX11_cut {P : mwM → mwL → Prop} (hC : CPc2 P) {fu : Nat} {a1 : Int32} {M : mwM} {L : mwL} (h : P M L) : kq3 P (DX11_cut fu a1 M L) := by
  unfold DX11_cut
  exact (kqI3 (y_fX11_cut_b15 hC h) (kqI3 (kqM3_c2 hC h (by omega) (fun M3 h1 => (kqS3 h1))) (y_fX11_cut_b15 hC h)))
theorem y_fX11_system_b76 {P : mwM → mwL → Prop} (hC : CPc2 P) {fu : Nat} {M : mwM} {L : mwL} (h : P M L) : kq3 P (fX11_system_b76 fu M L) := by
  unfold fX11_system_b76
  exact (kqS3 h)
theorem y_fX11_system_b59 {P : mwM → mwL → Prop} (hC : CPc2 P) {fu : Nat} {s1 : Int32} {M : mwM} {L : mwL} (h : P M L) : kq3 P (fX11_system_b59 fu s1 M L) := by
  unfold fX11_system_b59
  exact (kq_mzz3 (kqM3_c2 hC h (by omega) (fun M2 h1 => (kqI3 (y_fX11_system_b76 hC h1) (kqB23 (y_DX1_join hC h1) (fun M4 L5 h2 => (y_fX11_system_b76 hC h2)))))))
theorem y_DX11_system {P : mwM → mwL → Prop} (hC : CPc1 P) {fu : Nat} {M : mwM} {L : mwL} (h : P M L) : kq3 P (DX11_system fu M L) := by
  unfold DX11_system
  exact (kqI3 (kqM3_c1 hC h (by omega) (fun M7 h1 => (kqB23 (y_DX1_clear (c12 hC) h1) (fun M8 L9 h2 => (kqB23 (y_DX8_readText hC h2) (fun M10 L11 h3 => (kqI3 (y_fX11_system_b59 (c12 hC) h3) (y_fX11_system_b59 (c12 hC) h3)))))))) (kqS3 h))
theorem y_DX11_place {P : mwM → mwL → Prop} (hC : CPc2 P) {fu : Nat} {M : mwM} {L : mwL} (h : P M L) : kq3 P (DX11_place fu M L) := by
  unfold DX11_place
  exact (kqS3 h)
theorem y_fX11_count_b10 {P : mwM → mwL → Prop} (hC : CPc2 P) {fu : Nat} {a1 : Int32} {M : mwM} {L : mwL} (h : P M L) : kq3 P (fX11_count_b10 fu a1 M L) := by
  unfold fX11_count_b10
  exact (kqS3 h)
theorem y_DX11_count {P : mwM → mwL → Prop} (hC : CPc2 P) {fu : Nat} {a1 : Int32} {M : mwM} {L : mwL} (h : P M L) : kq3 P (DX11_count fu a1 M L) := by
  unfold DX11_count
  exact (kqI3 (y_fX11_count_b10 hC h) (kqI3 (kqI3 (kqS3 h) (kqL3 (fun x4 => (kqI3 (kqS3 h) (kqI3 (kqS3 h) (kqI3 (kqS3 h) (kqI3 (kqS3 h) (kqI3 (kqS3 h) (kqI3 (kqS3 h) (kqS3 h)))))))))) (y_fX11_count_b10 hC h)))
theorem y_fX11_frame_b25 {P : mwM → mwL → Prop} (hC : CPc2 P) {fu : Nat} {a1 : Int32} {a2 : Int32} {M : mwM} {L : mwL} (h : P M L) : kq3 P (fX11_frame_b25 fu a1 a2 M L) := by
  unfold fX11_frame_b25
  exact (kqS3 h)
theorem y_fX11_frame_b44 {P : mwM → mwL → Prop} (hC : CPc2 P) {fu : Nat} {a1 : Int32} {a2 : Int32} {M : mwM} {L : mwL} (h : P M L) : kq3 P (fX11_frame_b44 fu a1 a2 M L) := by
  unfold fX11_frame_b44
  exact (kqS3 h)
theorem y_DX11_frame {P : mwM → mwL → Prop} (hC : CPc2 P) {fu : Nat} {a1 : Int32} {a2 : Int32} {M : mwM} {L : mwL} (h : P M L) : kq3 P (DX11_frame fu a1 a2 M L) := by
  unfold DX11_frame
  exact (kqI3 (y_fX11_frame_b25 hC h) (kqI3 (y_fX11_frame_b25 hC h) (kqI3 (kqI3 (y_fX11_frame_b44 hC h) (kqI3 (kqL3 (fun x6 => (kqI3 (kqB33 (y_DX6_identifierOf hC h) (fun r10 M8 L9 h1 => (kqS3 h1))) (kqI3 (kqK3 (fun q2 => (kqS3 h))) (kqI3 (kqK3 (fun q3 => (kqS3 h))) (kqI3 (kqK3 (fun q4 => (kqS3 h))) (kqK3 (fun q5 => (kqS3 h))))))))) (y_fX11_frame_b44 hC h))) (y_fX11_frame_b25 hC h))))
theorem y_fX11_signal_b25 {P : mwM → mwL → Prop} (hC : CPc2 P) {fu : Nat} {a1 : Int32} {a2 : Int32} {M : mwM} {L : mwL} (h : P M L) : kq3 P (fX11_signal_b25 fu a1 a2 M L) := by
  unfold fX11_signal_b25
  exact (kqS3 h)
theorem y_fX11_signal_b75 {P : mwM → mwL → Prop} (hC : CPc2 P) {fu : Nat} {a1 : Int32} {a2 : Int32} {s0 : Int32} {M : mwM} {L : mwL} (h : P M L) : kq3 P (fX11_signal_b75 fu a1 a2 s0 M L) := by
  unfold fX11_signal_b75
  exact (kqS3 h)
theorem y_DX11_signal {P : mwM → mwL → Prop} (hC : CPc2 P) {fu : Nat} {a1 : Int32} {a2 : Int32} {M : mwM} {L : mwL} (h : P M L) : kq3 P (DX11_signal fu a1 a2 M L) := by
  unfold DX11_signal
  exact (kqI3 (y_fX11_signal_b25 hC h) (kqI3 (y_fX11_signal_b25 hC h) (kqI3 (kqI3 (kqK3 (fun q1 => (y_fX11_signal_b75 hC h))) (kqK3 (fun q2 => (y_fX11_signal_b75 hC h)))) (y_fX11_signal_b25 hC h))))
theorem y_fX11_run_b36 {P : mwM → mwL → Prop} (hC : CPc2 P) {fu : Nat} {a1 : Int32} {M : mwM} {L : mwL} (h : P M L) : kq3 P (fX11_run_b36 fu a1 M L) := by
  unfold fX11_run_b36
  exact (kqS3 h)
theorem y_fX11_run_i59 {P : mwM → mwL → Prop} (hC : CPc2 P) {fu : Nat} {a1 : Int32} {r59 : (Int32 × Int32 × mwM × mwL) → Option ((Nat × Int32) × mwM × mwL)} {v2 : Int32} {v3 : Int32} (hr59 : ∀ s, P s.2.2.1 s.2.2.2 → kq3 P (r59 s)) {M : mwM} {L : mwL} (h : P M L) : kq3 P (fX11_run_i59 fu a1 r59 v2 v3 M L) := by
  unfold fX11_run_i59
  exact (kqI3 (kqS3 h) (kqB23 (y_DX1_passMicrosecond hC h) (fun M2 L3 h1 => (kqL3 (fun x4 => (hr59 (v2, x4, M2, L3) h1))))))
theorem y_fX11_run_h59 {P : mwM → mwL → Prop} (hC : CPc2 P) {fu : Nat} {a1 : Int32} : ∀ n s, P s.2.2.1 s.2.2.2 → kq3 P (fX11_run_h59 fu a1 n s) := by
  intro n
  induction n with
  | zero => intro s _; exact kqN3
  | succ n ih =>
    intro s h
    show kq3 P (fX11_run_i59 fu a1 (fX11_run_h59 fu a1 n) s.1 s.2.1 s.2.2.1 s.2.2.2)
    exact y_fX11_run_i59 hC ih h
theorem y_DX11_run {P : mwM → mwL → Prop} (hC : CPc2 P) {fu : Nat} {a1 : Int32} {M : mwM} {L : mwL} (h : P M L) : kq3 P (DX11_run fu a1 M L) := by
  unfold DX11_run
  exact (kqI3 (kqI3 (y_fX11_run_b36 hC h) (kqI3 (kqL3 (fun x8 => (y_fX11_run_h59 hC _ (x8, 0, M, L) h))) (y_fX11_run_b36 hC h))) (kqS3 h))
theorem y_fX11_time_b18 {P : mwM → mwL → Prop} (hC : CPc2 P) {fu : Nat} {s0 : Int32} {M : mwM} {L : mwL} (h : P M L) : kq3 P (fX11_time_b18 fu s0 M L) := by
  unfold fX11_time_b18
  exact (kqS3 h)
theorem y_DX11_time {P : mwM → mwL → Prop} (hC : CPc2 P) {fu : Nat} {M : mwM} {L : mwL} (h : P M L) : kq3 P (DX11_time fu M L) := by
  unfold DX11_time
  exact (kqI3 (y_fX11_time_b18 hC h) (y_fX11_time_b18 hC h))
theorem y_fX11_bit_b22 {P : mwM → mwL → Prop} (hC : CPc2 P) {fu : Nat} {a1 : Int32} {M : mwM} {L : mwL} (h : P M L) : kq3 P (fX11_bit_b22 fu a1 M L) := by
  unfold fX11_bit_b22
  exact (kqS3 h)
theorem y_DX11_bit {P : mwM → mwL → Prop} (hC : CPc2 P) {fu : Nat} {a1 : Int32} {M : mwM} {L : mwL} (h : P M L) : kq3 P (DX11_bit fu a1 M L) := by
  unfold DX11_bit
  exact (kqI3 (y_fX11_bit_b22 hC h) (kqI3 (y_fX11_bit_b22 hC h) (kqI3 (kqK3 (fun q1 => (kqS3 h))) (y_fX11_bit_b22 hC h))))
theorem y_fX11_node_b22 {P : mwM → mwL → Prop} (hC : CPc2 P) {fu : Nat} {a1 : Int32} {a2 : Int32} {M : mwM} {L : mwL} (h : P M L) : kq3 P (fX11_node_b22 fu a1 a2 M L) := by
  unfold fX11_node_b22
  exact (kqS3 h)
theorem y_fX11_node_b41 {P : mwM → mwL → Prop} (hC : CPc2 P) {fu : Nat} {a1 : Int32} {a2 : Int32} {M : mwM} {L : mwL} (h : P M L) : kq3 P (fX11_node_b41 fu a1 a2 M L) := by
  unfold fX11_node_b41
  exact (kqS3 h)
theorem y_fX11_node_b70 {P : mwM → mwL → Prop} (hC : CPc2 P) {fu : Nat} {a1 : Int32} {a2 : Int32} {s0 : Int32} {M : mwM} {L : mwL} (h : P M L) : kq3 P (fX11_node_b70 fu a1 a2 s0 M L) := by
  unfold fX11_node_b70
  exact (kqK3 (fun q1 => (kqK3 (fun q2 => (kqS3 h)))))
theorem y_DX11_node {P : mwM → mwL → Prop} (hC : CPc2 P) {fu : Nat} {a1 : Int32} {a2 : Int32} {M : mwM} {L : mwL} (h : P M L) : kq3 P (DX11_node fu a1 a2 M L) := by
  unfold DX11_node
  exact (kqI3 (y_fX11_node_b22 hC h) (kqI3 (y_fX11_node_b22 hC h) (kqI3 (kqI3 (y_fX11_node_b41 hC h) (kqI3 (kqI3 (y_fX11_node_b70 hC h) (kqI3 (y_fX11_node_b70 hC h) (y_fX11_node_b70 hC h))) (y_fX11_node_b41 hC h))) (y_fX11_node_b22 hC h))))
theorem y_fX11_error_b44 {P : mwM → mwL → Prop} (hC : CPc2 P) {fu : Nat} {a1 : Int32} {a2 : Int32} {M : mwM} {L : mwL} (h : P M L) : kq3 P (fX11_error_b44 fu a1 a2 M L) := by
  unfold fX11_error_b44
  exact (kqS3 h)
theorem y_fX11_error_b63 {P : mwM → mwL → Prop} (hC : CPc2 P) {fu : Nat} {a1 : Int32} {a2 : Int32} {M : mwM} {L : mwL} (h : P M L) : kq3 P (fX11_error_b63 fu a1 a2 M L) := by
  unfold fX11_error_b63
  exact (kqS3 h)
theorem y_fX11_error_b102 {P : mwM → mwL → Prop} (hC : CPc2 P) {fu : Nat} {a1 : Int32} {a2 : Int32} {s0 : Int32} {M : mwM} {L : mwL} (h : P M L) : kq3 P (fX11_error_b102 fu a1 a2 s0 M L) := by
  unfold fX11_error_b102
  exact (kqS3 h)
theorem y_fX11_error_b54 {P : mwM → mwL → Prop} (hC : CPc2 P) {fu : Nat} {a1 : Int32} {a2 : Int32} {v3 : Int32} {M : mwM} {L : mwL} (h : P M L) : kq3 P (fX11_error_b54 fu a1 a2 v3 M L) := by
  unfold fX11_error_b54
  exact (kqI3 (y_fX11_error_b63 hC h) (kqI3 (kqI3 (kqB33 (y_DX0_tellError hC h) (fun r10 M8 L9 h1 => (y_fX11_error_b102 hC h1))) (y_fX11_error_b102 hC h)) (y_fX11_error_b63 hC h)))
theorem y_fX11_error_b14 {P : mwM → mwL → Prop} (hC : CPc2 P) {fu : Nat} {a1 : Int32} {a2 : Int32} {s0 : Int32} {M : mwM} {L : mwL} (h : P M L) : kq3 P (fX11_error_b14 fu a1 a2 s0 M L) := by
  unfold fX11_error_b14
  exact (kqI3 (y_fX11_error_b44 hC h) (kqI3 (kqI3 (y_fX11_error_b44 hC h) (kqI3 (y_fX11_error_b54 hC h) (y_fX11_error_b44 hC h))) (y_fX11_error_b54 hC h)))
theorem y_fX11_error_b13 {P : mwM → mwL → Prop} (hC : CPc2 P) {fu : Nat} {a1 : Int32} {a2 : Int32} {M : mwM} {L : mwL} (h : P M L) : kq3 P (fX11_error_b13 fu a1 a2 M L) := by
  unfold fX11_error_b13
  exact (y_fX11_error_b14 hC h)
theorem y_DX11_error {P : mwM → mwL → Prop} (hC : CPc2 P) {fu : Nat} {a1 : Int32} {a2 : Int32} {M : mwM} {L : mwL} (h : P M L) : kq3 P (DX11_error fu a1 a2 M L) := by
  unfold DX11_error
  exact (kqI3 (kqI3 (y_fX11_error_b14 hC h) (y_fX11_error_b13 hC h)) (y_fX11_error_b13 hC h))
theorem y_fX11_flip_b22 {P : mwM → mwL → Prop} (hC : CPc2 P) {fu : Nat} {a1 : Int32} {a2 : Int32} {M : mwM} {L : mwL} (h : P M L) : kq3 P (fX11_flip_b22 fu a1 a2 M L) := by
  unfold fX11_flip_b22
  exact (kqS3 h)
theorem y_fX11_flip_b50 {P : mwM → mwL → Prop} (hC : CPc2 P) {fu : Nat} {a1 : Int32} {a2 : Int32} {M : mwM} {L : mwL} (h : P M L) : kq3 P (fX11_flip_b50 fu a1 a2 M L) := by
  unfold fX11_flip_b50
  exact (kqS3 h)
theorem y_DX11_flip {P : mwM → mwL → Prop} (hC : CPc2 P) {fu : Nat} {a1 : Int32} {a2 : Int32} {M : mwM} {L : mwL} (h : P M L) : kq3 P (DX11_flip fu a1 a2 M L) := by
  unfold DX11_flip
  exact (kqI3 (y_fX11_flip_b22 hC h) (kqI3 (y_fX11_flip_b22 hC h) (kqI3 (kqI3 (y_fX11_flip_b50 hC h) (kqI3 (kqK3 (fun q1 => (kqK3 (fun q2 => (kqM3_c2 hC h (by omega) (fun M8 h3 => (kqS3 h3))))))) (y_fX11_flip_b50 hC h))) (y_fX11_flip_b22 hC h))))
theorem y_fX11_silence_b22 {P : mwM → mwL → Prop} (hC : CPc2 P) {fu : Nat} {a1 : Int32} {a2 : Int32} {M : mwM} {L : mwL} (h : P M L) : kq3 P (fX11_silence_b22 fu a1 a2 M L) := by
  unfold fX11_silence_b22
  exact (kqS3 h)
theorem y_fX11_silence_b78 {P : mwM → mwL → Prop} (hC : CPc2 P) {fu : Nat} {a1 : Int32} {a2 : Int32} {r47 : (Int32 × Int32 × mwM × mwL) → Option ((Nat × Int32) × mwM × mwL)} {v4 : Int32} {s0 : Int32} {s1 : Int32} (hr47 : ∀ s, P s.2.2.1 s.2.2.2 → kq3 P (r47 s)) {M : mwM} {L : mwL} (h : P M L) : kq3 P (fX11_silence_b78 fu a1 a2 r47 v4 s0 s1 M L) := by
  unfold fX11_silence_b78
  exact (kqL3 (fun x4 => (kqL3 (fun x5 => (hr47 (x4, x5, M, L) h)))))
theorem y_fX11_silence_i47 {P : mwM → mwL → Prop} (hC : CPc2 P) {fu : Nat} {a1 : Int32} {a2 : Int32} {r47 : (Int32 × Int32 × mwM × mwL) → Option ((Nat × Int32) × mwM × mwL)} {v3 : Int32} {v4 : Int32} (hr47 : ∀ s, P s.2.2.1 s.2.2.2 → kq3 P (r47 s)) {M : mwM} {L : mwL} (h : P M L) : kq3 P (fX11_silence_i47 fu a1 a2 r47 v3 v4 M L) := by
  unfold fX11_silence_i47
  exact (kqI3 (kqS3 h) (kqK3 (fun q1 => (kqI3 (y_fX11_silence_b78 hC hr47 h) (y_fX11_silence_b78 hC hr47 h)))))
theorem y_fX11_silence_h47 {P : mwM → mwL → Prop} (hC : CPc2 P) {fu : Nat} {a1 : Int32} {a2 : Int32} : ∀ n s, P s.2.2.1 s.2.2.2 → kq3 P (fX11_silence_h47 fu a1 a2 n s) := by
  intro n
  induction n with
  | zero => intro s _; exact kqN3
  | succ n ih =>
    intro s h
    show kq3 P (fX11_silence_i47 fu a1 a2 (fX11_silence_h47 fu a1 a2 n) s.1 s.2.1 s.2.2.1 s.2.2.2)
    exact y_fX11_silence_i47 hC ih h
theorem y_DX11_silence {P : mwM → mwL → Prop} (hC : CPc2 P) {fu : Nat} {a1 : Int32} {a2 : Int32} {M : mwM} {L : mwL} (h : P M L) : kq3 P (DX11_silence fu a1 a2 M L) := by
  unfold DX11_silence
  exact (kqI3 (y_fX11_silence_b22 hC h) (kqI3 (y_fX11_silence_b22 hC h) (kqI3 (kqK3 (fun q1 => (kqM3_c2 hC h (by omega) (fun M10 h2 => (y_fX11_silence_h47 hC _ (0, 0, M10, L) h2))))) (y_fX11_silence_b22 hC h))))
theorem y_fX11_running_b37 {P : mwM → mwL → Prop} (hC : CPc2 P) {fu : Nat} {a1 : Int32} {a2 : Int32} {M : mwM} {L : mwL} (h : P M L) : kq3 P (fX11_running_b37 fu a1 a2 M L) := by
  unfold fX11_running_b37
  exact (kqS3 h)
theorem y_DX11_running {P : mwM → mwL → Prop} (hC : CPc2 P) {fu : Nat} {a1 : Int32} {a2 : Int32} {M : mwM} {L : mwL} (h : P M L) : kq3 P (DX11_running fu a1 a2 M L) := by
  unfold DX11_running
  exact (kqI3 (y_fX11_running_b37 hC h) (kqI3 (y_fX11_running_b37 hC h) (kqI3 (y_fX11_running_b37 hC h) (kqI3 (y_fX11_running_b37 hC h) (kqI3 (kqB33 (y_DX4_whoRan hC h) (fun r8 M6 L7 h1 => (kqS3 h1))) (y_fX11_running_b37 hC h))))))
theorem y_fX11_task_b25 {P : mwM → mwL → Prop} (hC : CPc2 P) {fu : Nat} {a1 : Int32} {a2 : Int32} {M : mwM} {L : mwL} (h : P M L) : kq3 P (fX11_task_b25 fu a1 a2 M L) := by
  unfold fX11_task_b25
  exact (kqS3 h)
theorem y_fX11_task_b44 {P : mwM → mwL → Prop} (hC : CPc2 P) {fu : Nat} {a1 : Int32} {a2 : Int32} {M : mwM} {L : mwL} (h : P M L) : kq3 P (fX11_task_b44 fu a1 a2 M L) := by
  unfold fX11_task_b44
  exact (kqS3 h)
theorem y_fX11_task_b74 {P : mwM → mwL → Prop} (hC : CPc2 P) {fu : Nat} {a1 : Int32} {a2 : Int32} {s0 : Int32} {M : mwM} {L : mwL} (h : P M L) : kq3 P (fX11_task_b74 fu a1 a2 s0 M L) := by
  unfold fX11_task_b74
  exact (kqK3 (fun q1 => (kqK3 (fun q2 => (kqS3 h)))))
theorem y_DX11_task {P : mwM → mwL → Prop} (hC : CPc2 P) {fu : Nat} {a1 : Int32} {a2 : Int32} {M : mwM} {L : mwL} (h : P M L) : kq3 P (DX11_task fu a1 a2 M L) := by
  unfold DX11_task
  exact (kqI3 (y_fX11_task_b25 hC h) (kqI3 (y_fX11_task_b25 hC h) (kqI3 (kqI3 (y_fX11_task_b44 hC h) (kqI3 (kqI3 (y_fX11_task_b74 hC h) (kqI3 (y_fX11_task_b74 hC h) (y_fX11_task_b74 hC h))) (y_fX11_task_b44 hC h))) (y_fX11_task_b25 hC h))))
theorem y_fX11_hasChart_b27 {P : mwM → mwL → Prop} (hC : CPc2 P) {fu : Nat} {a1 : Int32} {s0 : Int32} {M : mwM} {L : mwL} (h : P M L) : kq3 P (fX11_hasChart_b27 fu a1 s0 M L) := by
  unfold fX11_hasChart_b27
  exact (kq_mzz3 (kqS3 h))
theorem y_fX11_hasChart_b26 {P : mwM → mwL → Prop} (hC : CPc2 P) {fu : Nat} {a1 : Int32} {M : mwM} {L : mwL} (h : P M L) : kq3 P (fX11_hasChart_b26 fu a1 M L) := by
  unfold fX11_hasChart_b26
  exact (y_fX11_hasChart_b27 hC h)
theorem y_DX11_hasChart {P : mwM → mwL → Prop} (hC : CPc2 P) {fu : Nat} {a1 : Int32} {M : mwM} {L : mwL} (h : P M L) : kq3 P (DX11_hasChart fu a1 M L) := by
  unfold DX11_hasChart
  exact (kqI3 (y_fX11_hasChart_b26 hC h) (kqI3 (y_fX11_hasChart_b26 hC h) (kqI3 (y_fX11_hasChart_b26 hC h) (y_fX11_hasChart_b27 hC h))))
theorem y_fX11_active_b28 {P : mwM → mwL → Prop} (hC : CPc2 P) {fu : Nat} {a1 : Int32} {a2 : Int32} {M : mwM} {L : mwL} (h : P M L) : kq3 P (fX11_active_b28 fu a1 a2 M L) := by
  unfold fX11_active_b28
  exact (kqS3 h)
theorem y_fX11_active_b71 {P : mwM → mwL → Prop} (hC : CPc2 P) {fu : Nat} {a1 : Int32} {a2 : Int32} {s0 : Int32} {M : mwM} {L : mwL} (h : P M L) : kq3 P (fX11_active_b71 fu a1 a2 s0 M L) := by
  unfold fX11_active_b71
  exact (kqS3 h)
theorem y_DX11_active {P : mwM → mwL → Prop} (hC : CPc2 P) {fu : Nat} {a1 : Int32} {a2 : Int32} {M : mwM} {L : mwL} (h : P M L) : kq3 P (DX11_active fu a1 a2 M L) := by
  unfold DX11_active
  exact (kqB33 (y_DX11_hasChart hC h) (fun r3 M1 L2 h1 => (kqI3 (y_fX11_active_b28 hC h1) (kqI3 (y_fX11_active_b28 hC h1) (kqK3 (fun q2 => (kqI3 (kqK3 (fun q3 => (kqI3 (y_fX11_active_b71 hC h1) (kqK3 (fun q4 => (kqB33 (y_DX2_innermost hC h1) (fun r13 M11 L12 h5 => (y_fX11_active_b71 hC h5)))))))) (y_fX11_active_b28 hC h1))))))))
theorem y_fX11_value_b18 {P : mwM → mwL → Prop} (hC : CPc2 P) {fu : Nat} {a1 : Int32} {a2 : Int32} {M : mwM} {L : mwL} (h : P M L) : kq3 P (fX11_value_b18 fu a1 a2 M L) := by
  unfold fX11_value_b18
  exact (kqS3 h)
theorem y_DX11_value {P : mwM → mwL → Prop} (hC : CPc2 P) {fu : Nat} {a1 : Int32} {a2 : Int32} {M : mwM} {L : mwL} (h : P M L) : kq3 P (DX11_value fu a1 a2 M L) := by
  unfold DX11_value
  exact (kqB33 (y_DX11_hasChart hC h) (fun r3 M1 L2 h1 => (kqI3 (y_fX11_value_b18 hC h1) (kqI3 (y_fX11_value_b18 hC h1) (kqI3 (kqK3 (fun q2 => (kqK3 (fun q3 => (kqS3 h1))))) (y_fX11_value_b18 hC h1))))))
theorem y_fX11_chart_b28 {P : mwM → mwL → Prop} (hC : CPc2 P) {fu : Nat} {a1 : Int32} {a2 : Int32} {M : mwM} {L : mwL} (h : P M L) : kq3 P (fX11_chart_b28 fu a1 a2 M L) := by
  unfold fX11_chart_b28
  exact (kqS3 h)
theorem y_DX11_chart {P : mwM → mwL → Prop} (hC : CPc2 P) {fu : Nat} {a1 : Int32} {a2 : Int32} {M : mwM} {L : mwL} (h : P M L) : kq3 P (DX11_chart fu a1 a2 M L) := by
  unfold DX11_chart
  exact (kqB33 (y_DX11_hasChart hC h) (fun r3 M1 L2 h1 => (kqI3 (kqS3 h1) (kqI3 (y_fX11_chart_b28 hC h1) (kqI3 (kqL3 (fun x7 => (kqI3 (kqK3 (fun q2 => (kqS3 h1))) (kqI3 (kqK3 (fun q3 => (kqS3 h1))) (kqI3 (kqK3 (fun q4 => (kqS3 h1))) (kqK3 (fun q5 => (kqB33 (y_DX2_covered hC h1) (fun r17 M15 L16 h6 => (kqS3 h6)))))))))) (y_fX11_chart_b28 hC h1))))))
theorem y_fX11_trouble_b25 {P : mwM → mwL → Prop} (hC : CPc2 P) {fu : Nat} {a1 : Int32} {a2 : Int32} {M : mwM} {L : mwL} (h : P M L) : kq3 P (fX11_trouble_b25 fu a1 a2 M L) := by
  unfold fX11_trouble_b25
  exact (kqS3 h)
theorem y_fX11_trouble_b44 {P : mwM → mwL → Prop} (hC : CPc2 P) {fu : Nat} {a1 : Int32} {a2 : Int32} {M : mwM} {L : mwL} (h : P M L) : kq3 P (fX11_trouble_b44 fu a1 a2 M L) := by
  unfold fX11_trouble_b44
  exact (kqS3 h)
theorem y_DX11_trouble {P : mwM → mwL → Prop} (hC : CPc2 P) {fu : Nat} {a1 : Int32} {a2 : Int32} {M : mwM} {L : mwL} (h : P M L) : kq3 P (DX11_trouble fu a1 a2 M L) := by
  unfold DX11_trouble
  exact (kqI3 (y_fX11_trouble_b25 hC h) (kqI3 (y_fX11_trouble_b25 hC h) (kqI3 (kqI3 (y_fX11_trouble_b44 hC h) (kqI3 (kqB33 (y_DX10_tell hC h) (fun r8 M6 L7 h1 => (kqS3 h1))) (y_fX11_trouble_b44 hC h))) (y_fX11_trouble_b25 hC h))))
theorem y_DX11_cycle {P : mwM → mwL → Prop} (hC : CPc2 P) {fu : Nat} {a1 : Int32} {M : mwM} {L : mwL} (h : P M L) : kq3 P (DX11_cycle fu a1 M L) := by
  unfold DX11_cycle
  exact (kqI3 (kqS3 h) (kqB33 (y_DX10_endCycle hC h) (fun r4 M2 L3 h1 => (kqS3 h1))))
theorem y_fX11_counted_b9 {P : mwM → mwL → Prop} (hC : CPc2 P) {fu : Nat} {a1 : Int32} {M : mwM} {L : mwL} (h : P M L) : kq3 P (fX11_counted_b9 fu a1 M L) := by
  unfold fX11_counted_b9
  exact (kqS3 h)
theorem y_fX11_counted_b40 {P : mwM → mwL → Prop} (hC : CPc2 P) {fu : Nat} {a1 : Int32} {s0 : Int32} {M : mwM} {L : mwL} (h : P M L) : kq3 P (fX11_counted_b40 fu a1 s0 M L) := by
  unfold fX11_counted_b40
  exact (kqS3 h)
theorem y_DX11_counted {P : mwM → mwL → Prop} (hC : CPc2 P) {fu : Nat} {a1 : Int32} {M : mwM} {L : mwL} (h : P M L) : kq3 P (DX11_counted fu a1 M L) := by
  unfold DX11_counted
  exact (kqI3 (y_fX11_counted_b9 hC h) (kqI3 (kqI3 (y_fX11_counted_b40 hC h) (kqK3 (fun q1 => (y_fX11_counted_b40 hC h)))) (y_fX11_counted_b9 hC h)))
theorem y_fX11_say_b33 {P : mwM → mwL → Prop} (hC : CPc2 P) {fu : Nat} {a1 : Int32} {M : mwM} {L : mwL} (h : P M L) : kq3 P (fX11_say_b33 fu a1 M L) := by
  unfold fX11_say_b33
  exact (kqS3 h)
theorem y_DX11_say {P : mwM → mwL → Prop} (hC : CPcs P) {fu : Nat} {a1 : Int32} {M : mwM} {L : mwL} (h : P M L) : kq3 P (DX11_say fu a1 M L) := by
  unfold DX11_say
  exact (kqI3 (y_fX11_say_b33 (cs2 hC) h) (kqK3 (fun q1 => (kqM3_cs hC h (by omega) (fun M3 h2 => (kqM3_cs hC h2 (by omega) (fun M4 h3 => (y_fX11_say_b33 (cs2 hC) h3))))))))
theorem y_fX11_ask_b22 {P : mwM → mwL → Prop} (hC : CPc2 P) {fu : Nat} {a1 : Int32} {M : mwM} {L : mwL} (h : P M L) : kq3 P (fX11_ask_b22 fu a1 M L) := by
  unfold fX11_ask_b22
  exact (kqS3 h)
theorem y_fX11_ask_b64 {P : mwM → mwL → Prop} (hC : CPc2 P) {fu : Nat} {a1 : Int32} {M : mwM} {L : mwL} (h : P M L) : kq3 P (fX11_ask_b64 fu a1 M L) := by
  unfold fX11_ask_b64
  exact (kqS3 h)
theorem y_DX11_ask {P : mwM → mwL → Prop} (hC : CPcs P) {fu : Nat} {a1 : Int32} {M : mwM} {L : mwL} (h : P M L) : kq3 P (DX11_ask fu a1 M L) := by
  unfold DX11_ask
  exact (kqI3 (y_fX11_ask_b22 (cs2 hC) h) (kqI3 (y_fX11_ask_b22 (cs2 hC) h) (kqI3 (kqI3 (y_fX11_ask_b64 (cs2 hC) h) (kqI3 (y_fX11_ask_b64 (cs2 hC) h) (kqI3 (kqB23 (y_DX9_make (cs2 hC) h) (fun M7 L8 h1 => (kqM3_cs hC h1 (by omega) (fun M9 h2 => (kqM3_cs hC h2 (by omega) (fun M10 h3 => (kqL3 (fun x11 => (kqM3_cs hC h3 (by omega) (fun M12 h4 => (kqS3 h4))))))))))) (y_fX11_ask_b64 (cs2 hC) h)))) (y_fX11_ask_b22 (cs2 hC) h))))
theorem y_fX11_asking_b18 {P : mwM → mwL → Prop} (hC : CPc2 P) {fu : Nat} {s0 : Int32} {M : mwM} {L : mwL} (h : P M L) : kq3 P (fX11_asking_b18 fu s0 M L) := by
  unfold fX11_asking_b18
  exact (kqS3 h)
theorem y_DX11_asking {P : mwM → mwL → Prop} (hC : CPc2 P) {fu : Nat} {M : mwM} {L : mwL} (h : P M L) : kq3 P (DX11_asking fu M L) := by
  unfold DX11_asking
  exact (kqI3 (y_fX11_asking_b18 hC h) (y_fX11_asking_b18 hC h))
theorem y_fX11_answerLength_b41 {P : mwM → mwL → Prop} (hC : CPc2 P) {fu : Nat} {s0 : Int32} {M : mwM} {L : mwL} (h : P M L) : kq3 P (fX11_answerLength_b41 fu s0 M L) := by
  unfold fX11_answerLength_b41
  exact (kqS3 h)
theorem y_fX11_answerLength_b40 {P : mwM → mwL → Prop} (hC : CPc2 P) {fu : Nat} {M : mwM} {L : mwL} (h : P M L) : kq3 P (fX11_answerLength_b40 fu M L) := by
  unfold fX11_answerLength_b40
  exact (y_fX11_answerLength_b41 hC h)
theorem y_DX11_answerLength {P : mwM → mwL → Prop} (hC : CPc2 P) {fu : Nat} {M : mwM} {L : mwL} (h : P M L) : kq3 P (DX11_answerLength fu M L) := by
  unfold DX11_answerLength
  exact (kqI3 (y_fX11_answerLength_b40 hC h) (kqI3 (y_fX11_answerLength_b40 hC h) (kqK3 (fun q1 => (y_fX11_answerLength_b41 hC h)))))
theorem y_fX11_answer_b12 {P : mwM → mwL → Prop} (hC : CPc2 P) {fu : Nat} {a1 : Int32} {M : mwM} {L : mwL} (h : P M L) : kq3 P (fX11_answer_b12 fu a1 M L) := by
  unfold fX11_answer_b12
  exact (kqS3 h)
theorem y_DX11_answer {P : mwM → mwL → Prop} (hC : CPc2 P) {fu : Nat} {a1 : Int32} {M : mwM} {L : mwL} (h : P M L) : kq3 P (DX11_answer fu a1 M L) := by
  unfold DX11_answer
  exact (kqI3 (y_fX11_answer_b12 hC h) (kqB33 (y_DX11_answerLength hC h) (fun r4 M2 L3 h1 => (kqI3 (kqK3 (fun q2 => (kqK3 (fun q3 => (kqS3 h1))))) (y_fX11_answer_b12 hC h1)))))
theorem y_DX11_answers {P : mwM → mwL → Prop} (hC : CPc2 P) {fu : Nat} {M : mwM} {L : mwL} (h : P M L) : kq3 P (DX11_answers fu M L) := by
  unfold DX11_answers
  exact (kqB33 (y_DX11_answerLength hC h) (fun r3 M1 L2 h1 => (kqS3 h1)))
