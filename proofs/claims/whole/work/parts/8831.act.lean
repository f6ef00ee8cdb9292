/-! READING: the line of an act, whole -/
theorem st_act {fu n le a b C T X S K R W w : Nat} {A M : mwM} {Lc Lm : mwL} {tx : Nat → Nat} {nl : List Nm} {ow ct : Nat → Nat} {sg : Nat → Nat → Nat} {tu : Nat → Bool} {ky rd wt : Nat → Nat → Nat} (hfu : 6100 ≤ fu) (h : Ld A M n tx le a) (hP : PR A M Lc Lm n C T X S K R W nl ow ct sg tu ky rd wt) (h7 : A 1 7 = sI b) (h8 : M 732 8 = sI b) (hbn : b ≤ 6000) (hl : 12 * nl.length ≤ a) (hk : 15 * K ≤ a) (hw : w ≤ 2) : RlQ A M Lc Lm n le (DX8_readAct fu (sI w) A Lc) (DX19_addAct fu (sI w) M Lm) := by
  obtain ⟨⟨c1, c2, c3⟩, pT, pX, pB, pS, pK, pR, pW, pN, nB⟩ := id hP
  have ha := h.2.2.2.2.2.2.2.1
  have hX12 := pX.2.2.1
  obtain ⟨A1, M1, f1, f2, hr⟩ := st_told (fu := fu) (Lc := Lc) (Lm := Lm) (k := 2) hfu h pN (by omega)
  have fa1 : fWn A A1 := fun x y u => f1 x y (by omega)
  have fm1 : fG T S M M1 := fun x y u1 u2 u3 => f2 x y (by omega)
  have w2 : (sI w = (2 : Int32)) ↔ w = 2 := by rw [show (2 : Int32) = sI 2 from rfl, sI_eq (by omega) (by omega)]
  unfold DX8_readAct DX19_addAct
  rcases hr with ⟨q, q1, q2, q3, hk1, e1, e2, hL1, hH1⟩ | ⟨e1, e2, hX⟩
  rotate_left
  · rw [show DX8_toldName fu 0 2 A Lc = _ from e1, mb3_s, show DX19_named fu 3 M Lm = _ from e2, mb3_s, if_neg (show ¬ (0 : Int32) ≤ -1 by decide)]
    rw [nm_b33]
    by_cases cw : w = 2
    · rw [if_pos (w2.mpr cw), nf_actG (Fx_n hX)]
      exact rl_bad hP (by omega) (by omega) fa1 fm1 hX rfl rfl
    · rw [if_neg (fun z => cw (w2.mp z)), nf_actH (Fx_n hX)]
      exact rl_bad hP (by omega) (by omega) fa1 fm1 hX rfl rfl
  have hx : q.2.2.2.2 < X := by
    rcases (nB.2 q q1).2 q2 with g | g | g | g <;> omega
  rw [show DX8_toldName fu 0 2 A Lc = _ from e1, mb3_s, show DX19_named fu 3 M Lm = _ from e2, mb3_s, if_pos (ge_s (by omega))]
  generalize hx' : q.2.2.2.2 = x at *
  have hb1 := nw_b (tx := tx) ha
  have hb1' := hb1.2.2.2.2.1 hk1
  by_cases cw : w = 2
  · rw [if_pos (w2.mpr cw), if_pos (w2.mpr cw), mck_s (show x < 12 by omega) (by omega), mck_s (show x < 12 by omega) (by omega), sI_nn (by omega)]
    obtain ⟨v1, v2, v3, v4, v5, c, va, D, xx, v6, v7, v8, v9, v10, v11, v12, v13⟩ := (hP.2.2.1.2.2.2.1 x hx).2.2.2
    have q2 : A (293 + 36 * x) 8 = sI (c 0 1) := v7.2.1.1
    have q3 := v6.2.1.1
    rw [show A1 (293 + 36 * x + 0) 8 = sI (c 0 1) by rw [show 293 + 36 * x + 0 = 293 + 36 * x from rfl, fa1 _ _ (by omega)]; exact q2, show M1 750 x = sI (c 0 1) by rw [fm1 _ _ (by omega) (by omega) (by omega)]; exact v12]
    exact st_actT hfu hL1 hP fa1 fm1 h7 h8 hbn (by omega) (by omega) hx hw (fun z => absurd cw z) (fun _ => ⟨q2, q3⟩)
  · rw [if_neg (fun z => cw (w2.mp z)), if_neg (fun z => cw (w2.mp z)), st_of, mb3_s]
    have N1 := NaR_f pN (A' := A1) (M' := M1) (fun x y u => fa1 x y (by omega)) (fun x y u => fm1 x y (by omega) (by omega) (by omega))
    obtain ⟨A2, M2, f3, f4, hr⟩ := st_stt (fu := fu) (Lc := Lc) (Lm := Lm) hfu hL1 N1 hx
    have fa2 : fWn A A2 := fun x y u => by rw [f3 x y (by omega), fa1 x y u]
    have fm2 : fG T S M M2 := fun x y u1 u2 u3 => by rw [f4 x y (by omega), fm1 x y u1 u2 u3]
    rcases hr with ⟨i, hi, hk2, e3, e4, hL2, hH2⟩ | ⟨e3, e4, hX⟩
    · rw [e3, mb3_s, e4, mb3_s]
      have hb2 := nw_b (tx := tx) hb1.2.2.2.1
      have hb2' := hb2.2.2.2.2.1 hk2
      exact st_actT hfu hL2 hP fa2 fm2 h7 h8 hbn (by omega) (by omega) hx hw (fun _ => by omega) (fun z => absurd z cw)
    · rw [e3, mb3_s, e4, mb3_s, nf_b36 (Fx_n hX)]
      rw [nm_b33]
      exact rl_bad hP (by omega) (by omega) fa2 fm2 hX rfl rfl
