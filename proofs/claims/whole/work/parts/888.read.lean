/-! READING: the line of a read -/
theorem nf_ref {fu : Nat} {a1 a2 : Int32} {A : mwM} {L : mwL} (h : ¬ A 1 12 = 0) : DX8_refuseOwn fu a1 a2 A L = some (A, L) := by
  unfold DX8_refuseOwn
  rw [if_neg h]
  rfl
theorem nf_refT {fu : Nat} {a1 a2 : Int32} {A : mwM} {L : mwL} {F : mwM → mwL → Option (mwM × mwL)} (h : ¬ A 1 12 = 0) (hF : F A L = some (A, L)) : mck 0 12 (mb2 (DX8_refuseOwn fu a1 a2 A L) F) = some (A, L) := by
  rw [nf_ref h, mb2_s, hF, show (0 : Int32) = sI 0 from rfl, mck_s (by omega) (by omega)]
theorem c_refuse {fu s z b : Nat} {a2 : Int32} {A : mwM} {L : mwL} (h12 : A 1 12 = 0) (hs : s < 40) (h68 : A 68 s = sI z) (h7 : A 1 7 = sI b) : DX8_refuseOwn fu (sI s) a2 A L = if sI z = a2 then some (flA A (sI 7) (sI b), L) else some (A, L) := by
  unfold DX8_refuseOwn fX8_refuseOwn_b35
  rw [if_pos h12, mck_s hs (by omega), sI_nn (by omega), h68, c_fail h12, mb2_s, h7]
  rfl
theorem st_lread {fu n le a b C T X S K R W : Nat} {A M : mwM} {Lc Lm : mwL} {tx : Nat → Nat} {nl : List Nm} {ow ct : Nat → Nat} {sg : Nat → Nat → Nat} {tu : Nat → Bool} {ky rd wt : Nat → Nat → Nat} (hfu : 6100 ≤ fu) (h : Ld A M n tx le a) (hP : PR A M Lc Lm n C T X S K R W nl ow ct sg tu ky rd wt) (h7 : A 1 7 = sI b) (h8 : M 732 8 = sI b) (hbn : b ≤ 6000) (hl : 12 * nl.length ≤ a) (hk : 15 * K ≤ a) : RlQ A M Lc Lm n le (DX8_readRead fu A Lc) (DX19_addRead fu M Lm) := by
  obtain ⟨⟨c1, c2, c3⟩, pT, pX, pB, pS, pK, pR, pW, pN, nB⟩ := id hP
  have ha := h.2.2.2.2.2.2.2.1
  have hX12 := pX.2.2.1
  have hS40 := pS.2.2.1
  have hT12 := pT.2.2.1
  obtain ⟨A1, M1, f1, f2, hr⟩ := st_told (fu := fu) (Lc := Lc) (Lm := Lm) (k := 3) hfu h pN (by omega)
  have fa1 : fWn A A1 := fun x y u => f1 x y (by omega)
  have fm1 : fG T S M M1 := fun x y u1 u2 u3 => f2 x y (by omega)
  unfold DX8_readRead DX19_addRead fX8_readRead_b77 fX19_addRead_b19 fX19_addRead_b33 fX19_addRead_b55
  rcases hr with ⟨q, q1, q2, q3, hk1, e1, e2, hL1, hH1⟩ | ⟨e1, e2, hX⟩
  rotate_left
  · rw [show DX8_toldName fu 0 3 A Lc = _ from e1, mb3_s, show DX19_named fu 4 M Lm = _ from e2, mb3_s, if_neg (show ¬ (0 : Int32) ≤ -1 by decide), if_neg (show ¬ (0 : Int32) ≤ -1 by decide), if_pos (show (-1 : Int32) < 0 by decide)]
    unfold DX8_dataOf
    rw [nf_told (Fx_n hX), mb3_s, mb3_s, nf_told (Fx_n hX), mb3_s, nf_number (Fx_n hX), mb3_s, nf_end (Fx_n hX), mb2_s, nf_refT (Fx_n hX) (by rw [if_neg (Fx_n hX)])]
    exact rl_bad hP (by omega) (by omega) fa1 fm1 hX rfl rfl
  have hs : q.2.2.2.2 < S := by
    rcases (nB.2 q q1).2 q2 with g | g | g | g <;> omega
  rw [show DX8_toldName fu 0 3 A Lc = _ from e1, mb3_s, show DX19_named fu 4 M Lm = _ from e2, mb3_s, if_pos (ge_s (by omega))]
  generalize hs' : q.2.2.2.2 = s at *
  have N1 := NaR_f pN (A' := A1) (M' := M1) (fun x y u => fa1 x y (by omega)) (fun x y u => fm1 x y (by omega) (by omega) (by omega))
  obtain ⟨A2, M2, f3, f4, hr⟩ := st_told (fu := fu) (Lc := Lc) (Lm := Lm) (k := 2) hfu hL1 N1 (by omega)
  have fa2 : fWn A A2 := fun x y u => by rw [f3 x y (by omega), fa1 x y u]
  have fm2 : fG T S M M2 := fun x y u1 u2 u3 => by rw [f4 x y (by omega), fm1 x y u1 u2 u3]
  rcases hr with ⟨q', q1', q2', q3', hk2, e3, e4, hL2, _⟩ | ⟨e3, e4, hX⟩
  rotate_left
  · rw [show DX8_toldName fu 0 2 A1 Lc = _ from e3, mb3_s, show DX19_named fu 3 M1 Lm = _ from e4, mb3_s, if_neg (show ¬ (0 : Int32) ≤ -1 by decide), if_pos (show (-1 : Int32) < 0 by decide)]
    unfold DX8_dataOf
    rw [mb3_s, nf_told (Fx_n hX), mb3_s, nf_number (Fx_n hX), mb3_s, nf_end (Fx_n hX), mb2_s, nf_refT (Fx_n hX) (by rw [if_neg (Fx_n hX)])]
    exact rl_bad hP (by omega) (by omega) fa2 fm2 hX rfl rfl
  have hx : q'.2.2.2.2 < X := by
    rcases (nB.2 q' q1').2 q2' with g | g | g | g <;> omega
  rw [show DX8_toldName fu 0 2 A1 Lc = _ from e3, mb3_s, show DX19_named fu 3 M1 Lm = _ from e4, mb3_s, if_pos (ge_s (by omega)), da_of, mb3_s]
  generalize hx' : q'.2.2.2.2 = x at *
  have N2 := NaR_f pN (A' := A2) (M' := M2) (fun x y u => fa2 x y (by omega)) (fun x y u => fm2 x y (by omega) (by omega) (by omega))
  obtain ⟨A3, M3, f5, f6, hr⟩ := st_dat (fu := fu) (Lc := Lc) (Lm := Lm) hfu hL2 N2 hx
  have fa3 : fWn A A3 := fun x y u => by rw [f5 x y (by omega), fa2 x y u]
  have fm3 : fG T S M M3 := fun x y u1 u2 u3 => by rw [f6 x y (by omega), fm2 x y u1 u2 u3]
  have hx12 : x < 12 := by omega
  rcases hr with ⟨d, hd, hk3, e5, e6, hL3, _⟩ | ⟨e5, e6, hX⟩
  rotate_left
  · rw [e5, mb3_s, e6, mb3_s, if_pos (show (-1 : Int32) < 0 by decide), nf_number (Fx_n hX), mb3_s, nf_end (Fx_n hX), mb2_s, mck_s hx12 (by omega), nf_ref (Fx_n hX), mb2_s, if_neg (Fx_n hX)]
    exact rl_bad hP (by omega) (by omega) fa3 fm3 hX rfl rfl
  have hd32 := (N2.2.2.2.2 x hx).2.2.1
  rw [e5, mb3_s, e6, mb3_s, if_neg (ns_s (by omega))]
  obtain ⟨A4, M4, f7, f8, hr⟩ := st_number (fu := fu) (Lc := Lc) (Lm := Lm) (a1 := sI 0) (a2 := sI 99) hfu hL3
  have fa4 : fWn A A4 := fun x y u => by rw [f7 x y (by omega), fa3 x y u]
  have fm4 : fG T S M M4 := fun x y u1 u2 u3 => by rw [f8 x y (by omega), fm3 x y u1 u2 u3]
  rcases hr with ⟨hk4, z1, z2, z3, e7, e8, e9, hL4, _⟩ | ⟨e7, e8, hX⟩
  rotate_left
  · rw [show DX8_number fu 0 99 A3 Lc = _ from e7, mb3_s, show DX19_number fu 0 99 M3 Lm = _ from e8, mb3_s, if_pos (show (0 : Int32) = 0 from rfl), nf_end (Fx_n hX), mb2_s, mck_s hx12 (by omega), nf_ref (Fx_n hX), mb2_s, if_neg (Fx_n hX)]
    exact rl_bad hP (by omega) (by omega) fa4 fm4 hX rfl rfl
  obtain ⟨v, y4, y5, y6⟩ := nu_nat (lo := 0) (hi := 99) z1 z2 z3 (by omega) (by omega)
  rw [y4] at e7 e9
  rw [show DX8_number fu 0 99 A3 Lc = _ from e7, mb3_s, show DX19_number fu 0 99 M3 Lm = _ from e8, mb3_s, if_neg (show ¬ (1 : Int32) = 0 by decide)]
  obtain ⟨A5, M5, f9, f10, hr⟩ := st_eol (fu := fu) (Lc := Lc) (Lm := Lm) hfu hL4
  have fa5 : fWn A A5 := fun x y u => by rw [f9 x y (by omega), fa4 x y u]
  have fm5 : fG T S M M5 := fun x y u1 u2 u3 => by rw [f10 x y (by omega), fm4 x y u1 u2 u3]
  rcases hr with ⟨hk5, e10, e11, hL5⟩ | ⟨e10, e11, hX⟩
  rotate_left
  · rw [e10, mb2_s, mck_s hx12 (by omega), nf_ref (Fx_n hX), mb2_s, if_neg (Fx_n hX), e11, mb3_s, if_pos (show (0 : Int32) = 0 from rfl)]
    exact rl_bad hP (by omega) (by omega) fa5 fm5 hX rfl rfl
  have l9 := hL5.2.2.2.2.2.2.2.2
  have hP5 := PR_f hP (A' := A5) (M' := M5) (fun a y u => fa5 a y (by omega)) (fun a y u1 u2 u3 => fm5 a y (by omega) u2 u3)
  obtain ⟨⟨c1', c2', c3'⟩, pT', pX', pB', pS', pK', ⟨r1, r2, r3, r4⟩, pW', pN', nB'⟩ := hP5
  have g7 : A5 1 7 = sI b := by rw [fa5 _ _ (by omega)]; exact h7
  have g8 : M5 732 8 = sI b := by rw [fm5 _ _ (by omega) (by omega) (by omega)]; exact h8
  have m13 : M5 732 13 = sI v := by rw [f10 _ _ (by omega)]; exact e9
  obtain ⟨x1, x2, x3, _⟩ := pX'.2.2.2.1 x hx
  obtain ⟨_, _, ⟨_, s62, s62'⟩, _, _, s68, _⟩ := pS'.2.2.2 s hs
  obtain ⟨w1, w2, w3, _⟩ := pX'.2.2.2.1 (sg 2 s) s62'
  have t1 := (pT'.2.2.2.1 (ct x) x2).2.1
  have t2 := (pT'.2.2.2.1 (ct (sg 2 s)) w2).2.1
  have t3 := (pT'.2.2.2.1 (ct x) x2).2.2.1
  have t4 := (pT'.2.2.2.1 (ct (sg 2 s)) w2).2.2.1
  have snd : DX19_senderOf fu (sI s) M5 Lm = some (sI (ow (ct (sg 2 s))), M5, Lm) := by
    unfold DX19_senderOf
    rw [mck_s (show s < 40 by omega) (by omega), sI_nn (by omega), s62, mck_s (show sg 2 s < 12 by omega) (by omega), sI_nn (by omega), w1, mck_s (show ct (sg 2 s) < 12 by omega) (by omega), sI_nn (by omega), t2]
  rw [e10, mb2_s, mck_s hx12 (by omega), sI_nn (k := x) (by omega), show A5 (293 + 36 * x + 0) 5 = sI (ow (ct x)) from x3, c_refuse l9 (show s < 40 by omega) s68 g7, e11, mb3_s, if_neg (show ¬ (1 : Int32) = 0 by decide), mck_s hx12 (by omega), x1, mck_s (show ct x < 12 by omega) (by omega), snd, mb3_s, sI_nn (k := ct x) (by omega), t1]
  by_cases co : ow (ct x) = ow (ct (sg 2 s))
  · have hX : Fx (flA A5 (sI 7) (sI b)) (mset (mset M5 732 11 7) 732 12 (sI b)) := Fx_i (k := 7) (by omega) (by omega) hbn
    rw [if_pos (show sI (ow (ct (sg 2 s))) = sI (ow (ct x)) by rw [co]), mb2_s, if_neg (Fx_n hX), if_pos (show sI (ow (ct x)) = sI (ow (ct (sg 2 s))) by rw [co]), m_fail, mb3_s, g8]
    exact rl_bad hP (by omega) (by omega) (fl_fr fa5) (fun x y u1 u2 u3 => by rw [mset_n (by omega), mset_n (by omega), fm5 x y u1 u2 u3]) hX rfl rfl
  rw [if_neg (show ¬ sI (ow (ct (sg 2 s))) = sI (ow (ct x)) by rw [sI_eq (by omega) (by omega)]; omega), mb2_s, if_pos l9, if_neg (show ¬ sI (ow (ct x)) = sI (ow (ct (sg 2 s))) by rw [sI_eq (by omega) (by omega)]; omega), r2]
  by_cases c60 : R = 60
  · have hX : Fx (flA A5 (sI 6) (sI b)) (mset (mset M5 732 11 6) 732 12 (sI b)) := Fx_i (k := 6) (by omega) (by omega) hbn
    have cA : DX1_addRead fu (sI s) (sI x) (sI d) (sI v) A5 Lc = some (-4, A5, Lc) := by
      unfold DX1_addRead
      rw [if_neg (show ¬ A5 3 15 < 60 by rw [r1, show (60 : Int32) = sI 60 from rfl, sI_lt (by omega) (by omega)]; omega)]
    rw [cA, mb3_s, c_heed l9 g7 (by decide), mb2_s, if_pos (show sI R = 60 by rw [c60]; rfl), m_fail, mb3_s, g8]
    exact rl_bad hP (by omega) (by omega) (fl_fr fa5) (fun x y u1 u2 u3 => by rw [mset_n (by omega), mset_n (by omega), fm5 x y u1 u2 u3]) hX rfl rfl
  have hR : R < 60 := by omega
  have cA : DX1_addRead fu (sI s) (sI x) (sI d) (sI v) A5 Lc = some (sI (R + 1), mset (mset (mset (mset (mset (mset A5 286 R (sI s)) 287 R (sI x)) 288 R (sI d)) 289 R (sI v)) 290 R 0) 3 15 (sI (R + 1)), Lc) := by
    unfold DX1_addRead
    rw [if_pos (show A5 3 15 < 60 by rw [r1, show (60 : Int32) = sI 60 from rfl, sI_lt (by omega) (by omega)]; omega)]
    simp (disch := omega) only [mset_n, mset_s, r1, mck_s, sI_nn, mlet_e, sI_1]
  have Rr : mck (sI R) 60 (mlet (mset M5 769 ((sI R).toNatClampNeg) (sI s)) (fun M22 => mck (M22 732 55) 60 (mlet (mset M22 770 ((M22 732 55).toNatClampNeg) (sI x)) (fun M24 => mck (M24 732 55) 60 (mlet (mset M24 771 ((M24 732 55).toNatClampNeg) (sI d)) (fun M26 => mck (M26 732 55) 60 (mlet (mset M26 772 ((M26 732 55).toNatClampNeg) (M26 732 13)) (fun M28 => mck (M28 732 55) 60 (mlet (mset M28 773 ((M28 732 55).toNatClampNeg) (vp_nar .boolean 0)) (fun M30 => mlet (mset M30 732 55 ((M30 732 55) + 1)) (fun M31 => some ((1 : Int32), M31, Lm)))))))))))) = some (1, mset (mset (mset (mset (mset (mset M5 769 R (sI s)) 770 R (sI x)) 771 R (sI d)) 772 R (sI v)) 773 R 0) 732 55 (sI (R + 1)), Lm) := by
    simp (disch := omega) only [mset_n, r2, m13, nar_f, mck_s, sI_nn, mlet_e, sI_1]
  rw [cA, mb3_s, c_heed0 (by omega), mb2_s, if_neg (show ¬ sI R = 60 by rw [show (60 : Int32) = sI 60 from rfl, sI_eq (by omega) (by omega)]; omega), Rr]
  generalize hA0 : mset (mset (mset (mset (mset (mset A5 286 R (sI s)) 287 R (sI x)) 288 R (sI d)) 289 R (sI v)) 290 R 0) 3 15 (sI (R + 1)) = A0
  generalize hM0 : mset (mset (mset (mset (mset (mset M5 769 R (sI s)) 770 R (sI x)) 771 R (sI d)) 772 R (sI v)) 773 R 0) 732 55 (sI (R + 1)) = M0
  have hA4 : ∀ x y, ¬ (x = 3 ∧ y = 15) → ¬ (286 ≤ x ∧ x ≤ 290 ∧ y = R) → A0 x y = A5 x y := fun x y u1 u2 => by
    rw [← hA0]
    simp (disch := omega) only [mset_n]
  have hM4 : ∀ x y, ¬ (x = 732 ∧ y = 55) → ¬ (769 ≤ x ∧ x ≤ 773 ∧ y = R) → M0 x y = M5 x y := fun x y u1 u2 => by
    rw [← hM0]
    simp (disch := omega) only [mset_n]
  refine ⟨A0, M0, Lc, Lm, true, rfl, rfl, ⟨fun p y u => ?_, fun p y u => ?_, ?_, ?_⟩, ?_, C, T, X, S, K, R + 1, W, nl, ow, ct, sg, tu, ky, fun i j => if j = R then (if i = 0 then s else if i = 1 then x else if i = 2 then d else v) else rd i j, wt, ⟨⟨by rw [hA4 _ _ (by omega) (by omega)]; exact c1', by rw [hM4 _ _ (by omega) (by omega)]; exact c2', c3⟩, PrT_f pT' (fun x y u => hA4 x y (by omega) (by omega)) (fun x y u => hM4 x y (by omega) (by omega)), PrX_f pX' (fun x y u => hA4 x y (by omega) (by omega)) (fun x y u => hM4 x y (by omega) (by omega)) (fun _ _ _ => rfl) (fun _ _ => rfl), PrB_f pB' (fun x u1 u2 => hM4 x 0 (by omega) (by omega)) (fun _ _ _ _ _ => rfl) (fun _ _ _ _ _ => rfl), PrS_f pS' (fun x y u => hA4 x y (by omega) (by omega)) (fun x y u => hM4 x y (by omega) (by omega)), PrK_f pK' (fun x y u => hA4 x y (by omega) (by omega)) (fun x y u => hM4 x y (by omega) (by omega)), ⟨by rw [← hA0, mset_s], by rw [← hM0, mset_s], by omega, fun i hi => ?_⟩, PrW_f pW' (fun x y u1 u2 => hA4 x y (by omega) (by omega)) (fun x y u => hM4 x y (by omega) (by omega)) (fun _ => rfl), NaR_f pN' (fun x y u => hA4 x y (by omega) (by omega)) (fun x y u => hM4 x y (by omega) (by omega)), nB⟩, by omega, by omega⟩
  · rw [hA4 p y (by omega) (by omega), fa5 p y (by omega)]
  · rw [hM4 p y (by omega) (by omega), fm5 p y (by omega) (by omega) (by omega)]
  · exact fun _ _ => rfl
  · exact fun _ _ _ => rfl
  · rw [if_pos rfl, hA4 _ _ (by omega) (by omega)]
    exact l9
  · dsimp only
    by_cases ci : i = R
    · subst ci
      rw [← hA0, ← hM0]
      simp (disch := omega) only [mset_n, mset_s]
      exact ⟨rfl, rfl, hs, rfl, rfl, hx, rfl, rfl, by show d < 32; omega, rfl, rfl, by show v < 1000; omega, false, rfl, rfl, fun z => absurd z (by decide)⟩
    · rw [if_neg ci, if_neg ci, if_neg ci, if_neg ci, hA4 _ _ (by omega) (by omega), hA4 _ _ (by omega) (by omega), hA4 _ _ (by omega) (by omega), hA4 _ _ (by omega) (by omega), hA4 _ _ (by omega) (by omega), hM4 _ _ (by omega) (by omega), hM4 _ _ (by omega) (by omega), hM4 _ _ (by omega) (by omega), hM4 _ _ (by omega) (by omega), hM4 _ _ (by omega) (by omega)]
      exact r4 i (by omega)
