/-! READING: the line of a signal -/
theorem c_addSig {fu S : Nat} {a1 a2 a3 a4 a5 a7 : Int32} {t : Bool} {A : mwM} {L : mwL} (h : A 61 10 = sI S) (hS : S < 40) : DX6_addSignal fu a1 a2 a3 a4 a5 (bI t) a7 A L = some (mset (mset (mset (mset (mset (mset (mset (mset A 69 S a1) 63 S a2) 64 S a3) 65 S a4) 66 S a5) 67 S (bI t)) 68 S a7) 61 10 (sI (S + 1)), L) := by
  unfold DX6_addSignal fX6_addSignal_b93
  rw [if_pos (show A 61 10 < 40 by rw [h, show (40 : Int32) = sI 40 from rfl, sI_lt (by omega) (by omega)]; exact hS)]
  simp (disch := omega) only [mset_n, h, mck_s, sI_nn, mlet_e, sI_1]
  cases t with
  | false => rw [bI_f, if_pos (show (0 : Int32) = 0 from rfl)]
  | true => rw [bI_t, if_neg (show ¬ (1 : Int32) = 0 by decide)]
theorem nar_b {t : Bool} : vp_nar .boolean (bI t) = bI t := by cases t <;> rfl
theorem st_signal {fu n le a b C T X S K R W : Nat} {A M : mwM} {Lc Lm : mwL} {tx : Nat → Nat} {nl : List Nm} {ow ct : Nat → Nat} {sg : Nat → Nat → Nat} {tu : Nat → Bool} {ky rd wt : Nat → Nat → Nat} (hfu : 6100 ≤ fu) (h : Ld A M n tx le a) (hP : PR A M Lc Lm n C T X S K R W nl ow ct sg tu ky rd wt) (hb : a < le → tx a = 32) (hl : 12 * nl.length + 6 ≤ a) (hk : 15 * K ≤ a) : RlQ A M Lc Lm n le (DX8_readSignal fu A Lc) (DX19_addSignal fu M Lm) := by
  obtain ⟨⟨c1, c2, c3⟩, pT, pX, pB, pS, pK, pR, pW, pN, nB⟩ := id hP
  have ha := h.2.2.2.2.2.2.2.1
  have hle := h.2.2.2.2.1
  have hn := h.1.2.1
  have hX12 := pX.2.2.1
  have hS40 := pS.2.2.1
  obtain ⟨A1, M1, f1, f2, hr⟩ := st_newName (fu := fu) (Lc := Lc) (Lm := Lm) (had := S) (most := 40) hfu h pN (by omega) (by omega)
  have fa1 : fWn A A1 := f1
  have fm1 : fG T S M M1 := fun x y u1 u2 u3 => f2 x y (by omega)
  unfold DX8_readSignal DX19_addSignal fX8_readSignal_b122 fX19_addSignal_b74 fX19_addSignal_b94
  rw [pS.1, pS.2.1]
  rcases hr with ⟨hc, hk1, e1, e2, hL, hH, w10, w11⟩ | ⟨e1, e2, hX⟩
  rotate_left
  · rw [show DX8_newName fu 0 (sI S) 40 A Lc = _ from e1, mb2_s, show DX19_newName fu (sI S) 40 M Lm = _ from e2, mb3_s, if_pos (show (0 : Int32) = 0 from rfl)]
    unfold DX8_dataOf
    simp only [nf_told (Fx_n hX), nf_number (Fx_n hX), nf_opt (Fx_n hX), nf_end (Fx_n hX), mb3_s, mb2_s, if_neg (Fx_n hX)]
    exact rl_bad hP (by omega) (by omega) fa1 fm1 hX rfl rfl
  obtain ⟨k1, k2, k3⟩ := nw_2 ha hb hk1
  obtain ⟨w8, w9, m9, m10, hlt⟩ := id hH
  rw [show DX8_newName fu 0 (sI S) 40 A Lc = _ from e1, mb2_s, show DX19_newName fu (sI S) 40 M Lm = _ from e2, mb3_s, if_neg (show ¬ (1 : Int32) = 0 by decide), mlet_e, mlet_e, m9, m10, sI_sub (by omega)]
  -- bits
  obtain ⟨A2, M2, f3, f4, hr⟩ := st_number (fu := fu) (Lc := Lc) (Lm := Lm) (a1 := sI 1) (a2 := sI 64) hfu hL
  have fa2 : fWn A A2 := fun x y u => by rw [f3 x y (by omega), fa1 x y u]
  have fm2 : fG T S M M2 := fun x y u1 u2 u3 => by rw [f4 x y (by omega), fm1 x y u1 u2 u3]
  rcases hr with ⟨hk2, z1, z2, z3, e3, e4, e5, hL2, _⟩ | ⟨e3, e4, hX⟩
  rotate_left
  · rw [show DX8_number fu 1 64 A1 Lc = _ from e3, mb3_s, show DX19_number fu 1 64 M1 Lm = _ from e4, mb3_s, if_pos (show (0 : Int32) = 0 from rfl)]
    unfold DX8_dataOf
    simp only [nf_told (Fx_n hX), nf_number (Fx_n hX), nf_opt (Fx_n hX), nf_end (Fx_n hX), mb3_s, mb2_s, if_neg (Fx_n hX)]
    exact rl_bad hP (by omega) (by omega) fa2 fm2 hX rfl rfl
  obtain ⟨bt, y1, y2, y3⟩ := nu_nat (lo := 1) (hi := 64) z1 z2 z3 (by omega) (by omega)
  rw [y1] at e3 e5
  obtain ⟨k4, k5, k6⟩ := nw_2 k2 k3 hk2
  have t2 : M2 732 45 = sI S := by rw [fm2 _ _ (by omega) (by omega) (by omega)]; exact pS.2.1
  rw [show DX8_number fu 1 64 A1 Lc = _ from e3, mb3_s, show DX19_number fu 1 64 M1 Lm = _ from e4, mb3_s, if_neg (show ¬ (1 : Int32) = 0 by decide), t2, mck_s hc (by omega), mlet_e, sI_nn (by omega), e5]
  have L2p : Ld A2 (mset M2 761 S (sI bt)) n tx le _ := Ld_n hL2 (fun p y u => mset_n (by omega))
  have fm2p : fG T S M (mset M2 761 S (sI bt)) := fun x y u1 u2 u3 => by rw [mset_n (by omega), fm2 x y u1 u2 u3]
  -- chart
  have N2 := NaR_f pN (A' := A2) (M' := mset M2 761 S (sI bt)) (fun x y u => fa2 x y (by omega)) (fun x y u => fm2p x y (by omega) (by omega) (by omega))
  obtain ⟨A3, M3, f5, f6, hr⟩ := st_told (fu := fu) (Lc := Lc) (Lm := Lm) (k := 2) hfu L2p N2 (by omega)
  have fa3 : fWn A A3 := fun x y u => by rw [f5 x y (by omega), fa2 x y u]
  have fm3 : fG T S M M3 := fun x y u1 u2 u3 => by rw [f6 x y (by omega), fm2p x y u1 u2 u3]
  rcases hr with ⟨q, q1, q2, q3, hk3, e6, e7, hL3, _⟩ | ⟨e6, e7, hX⟩
  rotate_left
  · rw [show DX8_toldName fu 0 2 A2 Lc = _ from e6, mb3_s, show DX19_named fu 3 (mset M2 761 S (sI bt)) Lm = _ from e7, mb3_s, if_neg (show ¬ (0 : Int32) ≤ -1 by decide), if_pos (show (-1 : Int32) < 0 by decide)]
    unfold DX8_dataOf
    simp only [nf_told (Fx_n hX), nf_number (Fx_n hX), nf_opt (Fx_n hX), nf_end (Fx_n hX), mb3_s, mb2_s, if_neg (Fx_n hX)]
    exact rl_bad hP (by omega) (by omega) fa3 fm3 hX rfl rfl
  have hx : q.2.2.2.2 < X := by
    rcases (nB.2 q q1).2 q2 with g | g | g | g <;> omega
  obtain ⟨k7, k8, k9⟩ := nw_2 k5 k6 hk3
  rw [show DX8_toldName fu 0 2 A2 Lc = _ from e6, mb3_s, show DX19_named fu 3 (mset M2 761 S (sI bt)) Lm = _ from e7, mb3_s, if_pos (ge_s (by omega)), da_of, mb3_s]
  generalize hx' : q.2.2.2.2 = x at *
  -- datum
  have N3 := NaR_f pN (A' := A3) (M' := M3) (fun x y u => fa3 x y (by omega)) (fun x y u => fm3 x y (by omega) (by omega) (by omega))
  obtain ⟨A4, M4, f7, f8, hr⟩ := st_dat (fu := fu) (Lc := Lc) (Lm := Lm) hfu hL3 N3 hx
  have fa4 : fWn A A4 := fun x y u => by rw [f7 x y (by omega), fa3 x y u]
  have fm4 : fG T S M M4 := fun x y u1 u2 u3 => by rw [f8 x y (by omega), fm3 x y u1 u2 u3]
  rcases hr with ⟨d, hd, hk4, e8, e9, hL4, _⟩ | ⟨e8, e9, hX⟩
  rotate_left
  · rw [e8, mb3_s, e9, mb3_s, if_pos (show (-1 : Int32) < 0 by decide)]
    simp only [nf_number (Fx_n hX), nf_opt (Fx_n hX), nf_end (Fx_n hX), mb3_s, mb2_s, if_neg (Fx_n hX)]
    exact rl_bad hP (by omega) (by omega) fa4 fm4 hX rfl rfl
  have hd32 := (N3.2.2.2.2 x hx).2.2.1
  obtain ⟨k10, k11, k12⟩ := nw_2 k8 k9 hk4
  rw [e8, mb3_s, e9, mb3_s, if_neg (ns_s (by omega))]
  -- period
  obtain ⟨A5, M5, f9, f10, hr⟩ := st_number (fu := fu) (Lc := Lc) (Lm := Lm) (a1 := sI 500) (a2 := sI 20000) hfu hL4
  have fa5 : fWn A A5 := fun x y u => by rw [f9 x y (by omega), fa4 x y u]
  have fm5 : fG T S M M5 := fun x y u1 u2 u3 => by rw [f10 x y (by omega), fm4 x y u1 u2 u3]
  rcases hr with ⟨hk5, z1, z2, z3, e10, e11, e12, hL5, _⟩ | ⟨e10, e11, hX⟩
  rotate_left
  · rw [show DX8_number fu 500 20000 A4 Lc = _ from e10, mb3_s, show DX19_number fu 500 20000 M4 Lm = _ from e11, mb3_s, if_pos (show (0 : Int32) = 0 from rfl)]
    simp only [nf_opt (Fx_n hX), nf_end (Fx_n hX), mb3_s, mb2_s, if_neg (Fx_n hX)]
    exact rl_bad hP (by omega) (by omega) fa5 fm5 hX rfl rfl
  obtain ⟨pe, y4, y5, y6⟩ := nu_nat (lo := 500) (hi := 20000) z1 z2 z3 (by omega) (by omega)
  rw [y4] at e10 e12
  have t5 : M5 732 45 = sI S := by rw [fm5 _ _ (by omega) (by omega) (by omega)]; exact pS.2.1
  rw [show DX8_number fu 500 20000 A4 Lc = _ from e10, mb3_s, show DX19_number fu 500 20000 M4 Lm = _ from e11, mb3_s, if_neg (show ¬ (1 : Int32) = 0 by decide), t5, mck_s hc (by omega), mlet_e, sI_nn (k := S) (by omega), e12]
  have L5p : Ld A5 (mset M5 764 S (sI pe)) n tx le _ := Ld_n hL5 (fun p y u => mset_n (by omega))
  have fm5p : fG T S M (mset M5 764 S (sI pe)) := fun x y u1 u2 u3 => by rw [mset_n (by omega), fm5 x y u1 u2 u3]
  -- turned
  obtain ⟨tn, A6, M6, e13, e14, f11, f12, hh⟩ := st_optEnd (fu := fu) (i := 5) (Lc := Lc) (Lm := Lm) hfu L5p ok_turned ch_turned rfl (by decide)
  obtain ⟨A7, M7, f13, f14, hr⟩ := hh (mset M6 765 S (bI tn)) (fun x y u => mset_n (by omega))
  have fa7 : fWn A A7 := fun x y u => by rw [f13 x y (by omega), f11 x y (by omega), fa5 x y u]
  have fm7 : fG T S M M7 := fun x y u1 u2 u3 => by rw [f14 x y (by omega), mset_n (by omega), f12 x y (by omega), fm5p x y u1 u2 u3]
  rw [e13, mb3_s, e14, mb3_s, mset_n (show ¬ (732 = 764 ∧ 45 = S) by omega), t5, mck_s hc (by omega), mlet_e, nar_b, sI_nn (k := S) (by omega)]
  rcases hr with ⟨e15, e16, a3, ha3, hL7⟩ | ⟨e15, e16, hX⟩
  rotate_left
  · rw [e15, mb2_s, if_neg (Fx_n hX), e16, mb3_s, if_pos (show (0 : Int32) = 0 from rfl)]
    exact rl_bad hP (by omega) (by omega) fa7 fm7 hX rfl rfl
  have l9 := hL7.2.2.2.2.2.2.2.2
  have r1 : M7 761 S = sI bt := by rw [f14 _ _ (by omega), mset_n (by omega), f12 _ _ (by omega), mset_n (by omega), f10 _ _ (by omega), f8 _ _ (by omega), f6 _ _ (by omega), mset_s]
  have r4 : M7 764 S = sI pe := by rw [f14 _ _ (by omega), mset_n (by omega), f12 _ _ (by omega), mset_s]
  have r5 : M7 765 S = bI tn := by rw [f14 _ _ (by omega), mset_s]
  have hP2 := PR_f hP (A' := A7) (M' := M7) (fun a y u => fa7 a y (by omega)) (fun a y u1 u2 u3 => fm7 a y (by omega) u2 u3)
  obtain ⟨⟨c1', c2', c3'⟩, pT', pX', pB', pS', pK', pR', pW', pN', nB'⟩ := hP2
  have nl0 := nB.1
  obtain ⟨s1, s2, s3, s4⟩ := id pS'
  generalize hM8 : mset (mset (mset M7 760 S (sI (nwB tx le a))) 762 S (sI x)) 763 S (sI d) = M8
  have fm8 : ∀ x y, ¬ ((x = 760 ∨ x = 762 ∨ x = 763) ∧ y = S) → M8 x y = M7 x y := fun x y u => by rw [← hM8, mset_n (by omega), mset_n (by omega), mset_n (by omega)]
  have u0 : M8 760 S = sI (nwB tx le a) := by rw [← hM8, mset_n (by omega), mset_n (by omega), mset_s]
  have u2 : M8 762 S = sI x := by rw [← hM8, mset_n (by omega), mset_s]
  have u3 : M8 763 S = sI d := by rw [← hM8, mset_s]
  have N8 := NaR_f pN' (A' := A7) (M' := M8) (fun _ _ _ => rfl) (fun x y u => fm8 x y (by omega))
  have q10 : A7 1 10 = sI (nwB tx le a) := by rw [f13 _ _ (by omega), f11 _ _ (by omega), f9 _ _ (by omega), f7 _ _ (by omega), f5 _ _ (by omega), f3 _ _ (by omega)]; exact w10
  have q11 : A7 1 11 = sI (nwE tx le a - nwB tx le a) := by rw [f13 _ _ (by omega), f11 _ _ (by omega), f9 _ _ (by omega), f7 _ _ (by omega), f5 _ _ (by omega), f3 _ _ (by omega)]; exact w11
  obtain ⟨A9, M9, g1, g2, g3, g4, g5⟩ := st_keep (fu := fu) (w := nwB tx le a) (s := nwE tx le a - nwB tx le a) (k := 3) (v := S) (Lc := Lc) (Lm := Lm) N8 l9 q10 q11 (by omega) (by omega) (by omega) (by have := pT.2.2.1; omega) (by omega) (by omega)
  have own : A9 (293 + 36 * x + 0) 5 = sI (ow (ct x)) := by
    rw [show 293 + 36 * x + 0 = 293 + 36 * x from rfl, g4 _ _ (by omega) (by omega)]
    exact (pX'.2.2.2.1 x hx).2.2.1
  rw [e15, mb2_s, if_pos l9, s1, show DX8_keepName fu 0 3 (sI S) A7 Lc = _ from g1, mb2_s, mck_s (show x < 12 by omega) (by omega), sI_nn (by omega), own, g4 1 10 (by omega) (by omega), q10, c_addSig (S := S) (by rw [g4 _ _ (by omega) (by omega)]; exact s1) hc, mb2_s, e16, mb3_s, if_neg (show ¬ (1 : Int32) = 0 by decide)]
  have Rr : mck (M7 732 45) 40 (mlet (mset M7 760 ((M7 732 45).toNatClampNeg) (sI (nwB tx le a))) (fun M18 => mck (M18 732 45) 40 (mlet (mset M18 762 ((M18 732 45).toNatClampNeg) (sI x)) (fun M20 => mck (M20 732 45) 40 (mlet (mset M20 763 ((M20 732 45).toNatClampNeg) (sI d)) (fun M22 => mb2 (DX19_addName fu (sI (nwB tx le a)) (sI (nwE tx le a - nwB tx le a)) 4 (M22 732 45) M22 Lm) (fun M23 L24 => mlet (mset M23 732 45 ((M23 732 45) + 1)) (fun M25 => some ((1 : Int32), M25, L24))))))))) = some (1, mset M9 732 45 (sI (S + 1)), Lm) := by
    simp (disch := omega) only [mset_n, s2, mck_s, sI_nn, mlet_e]
    rw [hM8, show DX19_addName fu (sI (nwB tx le a)) (sI (nwE tx le a - nwB tx le a)) 4 (sI S) M8 Lm = _ from g2, mb2_s, g5 _ _ (by omega) (by omega), fm8 _ _ (by omega), s2, sI_1]
  rw [Rr]
  generalize hA0 : mset (mset (mset (mset (mset (mset (mset (mset A9 69 S (sI (nwB tx le a))) 63 S (sI bt)) 64 S (sI x)) 65 S (sI d)) 66 S (sI pe)) 67 S (bI tn)) 68 S (sI (ow (ct x)))) 61 10 (sI (S + 1)) = A0
  have hA4 : ∀ x y, ¬ (x = 61 ∧ y = 10) → ¬ (63 ≤ x ∧ x ≤ 69 ∧ y = S) → ¬ (x = 1 ∧ y = 3) → ¬ (726 ≤ x ∧ x ≤ 730) → A0 x y = A7 x y := fun x y u1 u2 u3 u4 => by
    rw [← hA0]
    simp (disch := omega) only [mset_n]
    exact g4 x y u3 u4
  have hM4 : ∀ x y, ¬ (x = 732 ∧ y = 45) → ¬ (x = 732 ∧ y = 14) → ¬ (734 ≤ x ∧ x ≤ 737) → ¬ ((x = 760 ∨ x = 762 ∨ x = 763) ∧ y = S) → mset M9 732 45 (sI (S + 1)) x y = M7 x y := fun x y u1 u2 u3 u4 => by rw [mset_n (by omega), g5 x y u2 u3, fm8 x y u4]
  have hM5 : ∀ x y, 760 ≤ x → x ≤ 765 → mset M9 732 45 (sI (S + 1)) x y = M8 x y := fun x y u1 u2 => by rw [mset_n (by omega), g5 x y (by omega) (by omega)]
  refine ⟨A0, _, Lc, Lm, true, rfl, rfl, ⟨fun p y u => ?_, fun p y u => ?_, ?_, ?_⟩, ?_, C, T, X, S + 1, K, R, W, nl ++ [(0, nwB tx le a, nwE tx le a - nwB tx le a, 3, S)], ow, ct, fun i s => if s = S then (if i = 0 then bt else if i = 1 then pe else if i = 2 then x else if i = 3 then d else nwB tx le a) else sg i s, fun s => if s = S then tn else tu s, ky, rd, wt, ⟨⟨by rw [hA4 _ _ (by omega) (by omega) (by omega) (by omega)]; exact c1', by rw [hM4 _ _ (by omega) (by omega) (by omega) (by omega)]; exact c2', c3⟩, PrT_f pT' (fun x y u => hA4 x y (by omega) (by omega) (by omega) (by omega)) (fun x y u => hM4 x y (by omega) (by omega) (by omega) (by omega)), PrX_n (PrX_f pX' (fun x y u => hA4 x y (by omega) (by omega) (by omega) (by omega)) (fun x y u => hM4 x y (by omega) (by omega) (by omega) (by omega)) (fun _ _ _ => rfl) (fun _ _ => rfl)) rfl, PrB_f pB' (fun x u1 u2 => hM4 x 0 (by omega) (by omega) (by omega) (by omega)) (fun _ _ _ _ _ => rfl) (fun _ _ _ _ _ => rfl), ?_, PrK_f pK' (fun x y u => hA4 x y (by omega) (by omega) (by omega) (by omega)) (fun x y u => hM4 x y (by omega) (by omega) (by omega) (by omega)), ?_, ?_, NaR_f g3 (fun x y u => by
      rw [← hA0]
      simp (disch := omega) only [mset_n]) (fun x y u => mset_n (by omega)), NmB_0 nB rfl (by omega) (by omega) (by omega) (by omega) (by omega) (Or.inr (Or.inr (Or.inr ⟨rfl, by show S < S + 1; omega⟩)))⟩, ?_, by omega⟩
  · rw [hA4 p y (by omega) (by omega) (by omega) (by omega), fa7 p y (by omega)]
  · rw [hM4 p y (by omega) (by omega) (by omega) (by omega), fm7 p y (by omega) (by omega) (by omega)]
  · exact fun _ _ => rfl
  · exact fun _ _ _ => rfl
  · rw [if_pos rfl, hA4 _ _ (by omega) (by omega) (by omega) (by omega)]
    exact l9
  · refine ⟨by rw [← hA0, mset_s], mset_s, by omega, fun s hs => ?_⟩
    dsimp only
    by_cases ci : s = S
    · subst ci
      simp only [if_pos]
      rw [hM5 _ _ (by omega) (by omega), hM5 _ _ (by omega) (by omega), hM5 _ _ (by omega) (by omega), hM5 _ _ (by omega) (by omega), hM5 _ _ (by omega) (by omega), hM5 _ _ (by omega) (by omega), u0, u2, u3, fm8 761 s (by omega), fm8 764 s (by omega), fm8 765 s (by omega), r1, r4, r5]
      refine ⟨⟨?_, rfl, y2, y3⟩, ⟨?_, rfl, y5, y6⟩, ⟨?_, rfl, hx⟩, ⟨?_, rfl, by show d < 32; omega⟩, ⟨?_, rfl⟩, ?_, ?_, rfl, ?_⟩
      · rw [← hA0]
        simp (disch := omega) only [mset_n, mset_s]
      · rw [← hA0]
        simp (disch := omega) only [mset_n, mset_s]
        rfl
      · rw [← hA0]
        simp (disch := omega) only [mset_n, mset_s]
        rfl
      · rw [← hA0]
        simp (disch := omega) only [mset_n, mset_s]
        rfl
      · rw [← hA0]
        simp (disch := omega) only [mset_n, mset_s]
      · rw [← hA0]
        simp (disch := omega) only [mset_n, mset_s]
        rfl
      · rw [← hA0]
        simp (disch := omega) only [mset_n, mset_s]
        rfl
      · show nwB tx le a ≤ n
        omega
    · have := s4 s (by omega)
      rw [if_neg ci, if_neg ci, if_neg ci, if_neg ci, if_neg ci, if_neg ci, hA4 _ _ (by omega) (by omega) (by omega) (by omega), hA4 _ _ (by omega) (by omega) (by omega) (by omega), hA4 _ _ (by omega) (by omega) (by omega) (by omega), hA4 _ _ (by omega) (by omega) (by omega) (by omega), hA4 _ _ (by omega) (by omega) (by omega) (by omega), hA4 _ _ (by omega) (by omega) (by omega) (by omega), hA4 _ _ (by omega) (by omega) (by omega) (by omega), hM4 _ _ (by omega) (by omega) (by omega) (by omega), hM4 _ _ (by omega) (by omega) (by omega) (by omega), hM4 _ _ (by omega) (by omega) (by omega) (by omega), hM4 _ _ (by omega) (by omega) (by omega) (by omega), hM4 _ _ (by omega) (by omega) (by omega) (by omega), hM4 _ _ (by omega) (by omega) (by omega) (by omega)]
      exact this
  · obtain ⟨d1, d2, d3, d4⟩ := RdR_f pR' (A' := A0) (M' := mset M9 732 45 (sI (S + 1))) (Lc' := Lc) (Lm' := Lm) (fun x y u => hA4 x y (by omega) (by omega) (by omega) (by omega)) (fun x y u => hM4 x y (by omega) (by omega) (by omega) (by omega)) (fun _ => rfl) (fun _ => rfl)
    refine ⟨d1, d2, d3, fun r hr => ?_⟩
    obtain ⟨v1, v2, v3, v4⟩ := d4 r hr
    exact ⟨v1, v2, by omega, v4⟩
  · obtain ⟨⟨b1, b2, b3, b4⟩, b5, b6, b7⟩ := PrW_f pW' (A' := A0) (M' := mset M9 732 45 (sI (S + 1))) (Lm' := Lm) (fun x y u1 u2 => hA4 x y (by omega) (by omega) (by omega) (by omega)) (fun x y u => hM4 x y (by omega) (by omega) (by omega) (by omega)) (fun _ => rfl)
    refine ⟨⟨b1, b2, b3, fun w hw => ?_⟩, b5, fun w hw => ?_, b7⟩
    · obtain ⟨v1, v2, v3, v4⟩ := b4 w hw
      exact ⟨v1, v2, by omega, v4⟩
    · obtain ⟨v1, v2, v3, v4⟩ := b4 w hw
      rw [b6 w hw]
      dsimp only
      rw [if_neg (by omega)]
  · rw [List.length_append]
    show 12 * (nl.length + 1) ≤ le + 1
    omega
