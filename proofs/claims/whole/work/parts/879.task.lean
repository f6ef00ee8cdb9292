/-! READING: the line of a task -/
theorem c_addTask {fu T : Nat} {a1 a2 a3 a4 a5 : Int32} {A : mwM} {L : mwL} (h : A 5 3 = sI T) (hT : T < 12) : DX4_addTask fu a1 a2 a3 a4 a5 A L = some (mset (mset (mset (mset (mset (mset (mset (mset (mset (mset (mset (mset A 7 T a1) 8 T a2) 9 T a3) 10 T a5) 11 T a4) 12 T 0) 13 T 0) 14 T 0) 15 T 0) 16 T 0) 17 T 0) 5 3 (sI (T + 1)), L) := by
  unfold DX4_addTask
  rw [if_pos (show A 5 3 < 12 by rw [h, show (12 : Int32) = sI 12 from rfl, sI_lt (by omega) (by omega)]; exact hT)]
  simp (disch := omega) only [mset_n, h, mck_s, sI_nn, mlet_e, sI_1]
theorem PrX_o {A M : mwM} {Lc Lm : mwL} {X T T' : Nat} {ow ow' ct : Nat → Nat} {nl : List Nm} (h : PrX A M Lc Lm X T ow ct nl) (hT : T ≤ T') (ho : ∀ i, i < T → ow' i = ow i) : PrX A M Lc Lm X T' ow' ct nl := by
  obtain ⟨h1, h2, h3, h4, h5⟩ := h
  refine ⟨h1, h2, h3, fun x hx => ?_, h5⟩
  obtain ⟨g1, g2, g3, g4⟩ := h4 x hx
  exact ⟨g1, by omega, by rw [ho _ g2]; exact g3, g4⟩
theorem PrS_o {A M : mwM} {S X X' n : Nat} {ow ow' ct ct' : Nat → Nat} {sg : Nat → Nat → Nat} {tu : Nat → Bool} (h : PrS A M S X n ow ct sg tu) (hX : X ≤ X') (ho : ∀ x, x < X → ow' (ct' x) = ow (ct x)) : PrS A M S X' n ow' ct' sg tu := by
  obtain ⟨h1, h2, h3, h4⟩ := h
  refine ⟨h1, h2, h3, fun s hs => ?_⟩
  obtain ⟨g1, g2, ⟨g3, g4, g5⟩, g6, g7, g8, g9⟩ := h4 s hs
  exact ⟨g1, g2, ⟨g3, g4, by omega⟩, g6, g7, by rw [ho _ g5]; exact g8, g9⟩
theorem st_task {fu n le a C T X S K R W : Nat} {A M : mwM} {Lc Lm : mwL} {tx : Nat → Nat} {nl : List Nm} {ow ct : Nat → Nat} {sg : Nat → Nat → Nat} {tu : Nat → Bool} {ky rd wt : Nat → Nat → Nat} (hfu : 6100 ≤ fu) (h : Ld A M n tx le a) (hP : PR A M Lc Lm n C T X S K R W nl ow ct sg tu ky rd wt) (hb : a < le → tx a = 32) (hl : 12 * nl.length + 4 ≤ a) (hk : 15 * K ≤ a) : RlQ A M Lc Lm n le (DX8_readTask fu A Lc) (DX19_addTask fu M Lm) := by
  obtain ⟨⟨c1, c2, c3⟩, pT, pX, pB, pS, pK, pR, pW, pN, nB⟩ := id hP
  have ha := h.2.2.2.2.2.2.2.1
  have hle := h.2.2.2.2.1
  have hn := h.1.2.1
  have hT12 := pT.2.2.1
  obtain ⟨A1, M1, f1, f2, hr⟩ := st_newName (fu := fu) (Lc := Lc) (Lm := Lm) (had := T) (most := 12) hfu h pN (by omega) (by omega)
  have fa1 : fWn A A1 := f1
  have fm1 : fG T S M M1 := fun x y u1 u2 u3 => f2 x y (by omega)
  unfold DX8_readTask DX19_addTask fX8_readTask_b108 fX19_addTask_b51
  rw [pT.1, pT.2.1]
  rcases hr with ⟨hc, hk1, e1, e2, hL, hH, w10, w11⟩ | ⟨e1, e2, hX⟩
  rotate_left
  · rw [show DX8_newName fu 0 (sI T) 12 A Lc = _ from e1, mb2_s, show DX19_newName fu (sI T) 12 M Lm = _ from e2, mb3_s, if_pos (show (0 : Int32) = 0 from rfl)]
    simp only [nf_told (Fx_n hX), nf_number (Fx_n hX), nf_end (Fx_n hX), mb3_s, mb2_s, if_neg (Fx_n hX)]
    exact rl_bad hP (by omega) (by omega) fa1 fm1 hX rfl rfl
  obtain ⟨k1, k2, k3⟩ := nw_2 ha hb hk1
  obtain ⟨w8, w9, m9, m10, hlt⟩ := id hH
  rw [show DX8_newName fu 0 (sI T) 12 A Lc = _ from e1, mb2_s, show DX19_newName fu (sI T) 12 M Lm = _ from e2, mb3_s, if_neg (show ¬ (1 : Int32) = 0 by decide), mlet_e, mlet_e, m9, m10, sI_sub (by omega)]
  have N1 := NaR_f pN (A' := A1) (M' := M1) (fun x y u => fa1 x y (by omega)) (fun x y u => fm1 x y (by omega) (by omega) (by omega))
  obtain ⟨A2, M2, f3, f4, hr⟩ := st_told (fu := fu) (Lc := Lc) (Lm := Lm) (k := 0) hfu hL N1 (by omega)
  have fa2 : fWn A A2 := fun x y u => by rw [f3 x y (by omega), fa1 x y u]
  have fm2 : fG T S M M2 := fun x y u1 u2 u3 => by rw [f4 x y (by omega), fm1 x y u1 u2 u3]
  rcases hr with ⟨q, q1, q2, q3, hk2, e3, e4, hL2, _⟩ | ⟨e3, e4, hX⟩
  rotate_left
  · rw [show DX8_toldName fu 0 0 A1 Lc = _ from e3, mb3_s, show DX19_named fu 1 M1 Lm = _ from e4, mb3_s, if_pos (show (-1 : Int32) < 0 by decide)]
    simp only [nf_told (Fx_n hX), nf_number (Fx_n hX), nf_end (Fx_n hX), mb3_s, mb2_s, if_neg (Fx_n hX)]
    exact rl_bad hP (by omega) (by omega) fa2 fm2 hX rfl rfl
  obtain ⟨k4, k5, k6⟩ := nw_2 k2 k3 hk2
  have hco : q.2.2.2.2 < C := by
    rcases (nB.2 q q1).2 q2 with g | g | g | g <;> omega
  rw [show DX8_toldName fu 0 0 A1 Lc = _ from e3, mb3_s, show DX19_named fu 1 M1 Lm = _ from e4, mb3_s, if_neg (show ¬ sI q.2.2.2.2 < 0 by rw [show (0 : Int32) = sI 0 from rfl, sI_lt (by omega) (by omega)]; omega)]
  generalize hco' : q.2.2.2.2 = co at *
  obtain ⟨A3, M3, f5, f6, hr⟩ := st_number (fu := fu) (Lc := Lc) (Lm := Lm) (a1 := sI 0) (a2 := sI 255) hfu hL2
  have fa3 : fWn A A3 := fun x y u => by rw [f5 x y (by omega), fa2 x y u]
  have fm3 : fG T S M M3 := fun x y u1 u2 u3 => by rw [f6 x y (by omega), fm2 x y u1 u2 u3]
  rcases hr with ⟨hk3, z1, z2, z3, e5, e6, e7, hL3, _⟩ | ⟨e5, e6, hX⟩
  rotate_left
  · rw [show DX8_number fu 0 255 A2 Lc = _ from e5, mb3_s, show DX19_number fu 0 255 M2 Lm = _ from e6, mb3_s, if_pos (show (0 : Int32) = 0 from rfl)]
    simp only [nf_told (Fx_n hX), nf_number (Fx_n hX), nf_end (Fx_n hX), mb3_s, mb2_s, if_neg (Fx_n hX)]
    exact rl_bad hP (by omega) (by omega) fa3 fm3 hX rfl rfl
  obtain ⟨v3, z4, z5, z6⟩ := nu_nat (lo := 0) (hi := 255) z1 z2 z3 (by omega) (by omega)
  rw [z4] at e5 e7
  have t3 : M3 732 24 = sI T := by rw [fm3 _ _ (by omega) (by omega) (by omega)]; exact pT.2.1
  rw [show DX8_number fu 0 255 A2 Lc = _ from e5, mb3_s, show DX19_number fu 0 255 M2 Lm = _ from e6, mb3_s, if_neg (show ¬ (1 : Int32) = 0 by decide), t3, mck_s hc (by omega), mlet_e, sI_nn (by omega), e7]
  have L3p : Ld A3 (mset M3 743 T (sI v3)) n tx le _ := Ld_n hL3 (fun p y u => mset_n (by omega))
  have fm3p : fG T S M (mset M3 743 T (sI v3)) := fun x y u1 u2 u3 => by rw [mset_n (by omega), fm3 x y u1 u2 u3]
  obtain ⟨A4, M4, f7, f8, hr⟩ := st_number (fu := fu) (Lc := Lc) (Lm := Lm) (a1 := sI 500) (a2 := sI 20000) hfu L3p
  have fa4 : fWn A A4 := fun x y u => by rw [f7 x y (by omega), fa3 x y u]
  have fm4 : fG T S M M4 := fun x y u1 u2 u3 => by rw [f8 x y (by omega), fm3p x y u1 u2 u3]
  rcases hr with ⟨hk4, z1, z2, z3, e5, e6, e7, hL4, _⟩ | ⟨e5, e6, hX⟩
  rotate_left
  · rw [show DX8_number fu 500 20000 A3 Lc = _ from e5, mb3_s, show DX19_number fu 500 20000 (mset M3 743 T (sI v3)) Lm = _ from e6, mb3_s, if_pos (show (0 : Int32) = 0 from rfl)]
    simp only [nf_told (Fx_n hX), nf_number (Fx_n hX), nf_end (Fx_n hX), mb3_s, mb2_s, if_neg (Fx_n hX)]
    exact rl_bad hP (by omega) (by omega) fa4 fm4 hX rfl rfl
  obtain ⟨v4, z4, z5, z6⟩ := nu_nat (lo := 500) (hi := 20000) z1 z2 z3 (by omega) (by omega)
  rw [z4] at e5 e7
  have t4 : M4 732 24 = sI T := by rw [fm4 _ _ (by omega) (by omega) (by omega)]; exact pT.2.1
  rw [show DX8_number fu 500 20000 A3 Lc = _ from e5, mb3_s, show DX19_number fu 500 20000 (mset M3 743 T (sI v3)) Lm = _ from e6, mb3_s, if_neg (show ¬ (1 : Int32) = 0 by decide), t4, mck_s hc (by omega), mlet_e, sI_nn (by omega), e7]
  have L4p : Ld A4 (mset M4 744 T (sI v4)) n tx le _ := Ld_n hL4 (fun p y u => mset_n (by omega))
  have fm4p : fG T S M (mset M4 744 T (sI v4)) := fun x y u1 u2 u3 => by rw [mset_n (by omega), fm4 x y u1 u2 u3]
  have e74 : M4 732 13 = sI v4 := e7
  have h45 : (sI v4 : Int32) - 1 = sI (v4 - 1) := by rw [show (1 : Int32) = sI 1 from rfl, sI_sub (by omega)]
  obtain ⟨A5, M5, f9, f10, hr⟩ := st_number (fu := fu) (Lc := Lc) (Lm := Lm) (a1 := sI 0) (a2 := sI (v4 - 1)) hfu L4p
  have fa5 : fWn A A5 := fun x y u => by rw [f9 x y (by omega), fa4 x y u]
  have fm5 : fG T S M M5 := fun x y u1 u2 u3 => by rw [f10 x y (by omega), fm4p x y u1 u2 u3]
  rcases hr with ⟨hk5, z1, z2, z3, e5, e6, e7, hL5, _⟩ | ⟨e5, e6, hX⟩
  rotate_left
  · rw [show DX8_number fu 0 (sI v4 - 1) A4 Lc = _ from h45 ▸ e5, mb3_s, mset_n (show ¬ (732 = 744 ∧ 13 = T) by omega), e74, h45, show DX19_number fu 0 (sI (v4 - 1)) (mset M4 744 T (sI v4)) Lm = _ from e6, mb3_s, if_pos (show (0 : Int32) = 0 from rfl)]
    simp only [nf_told (Fx_n hX), nf_number (Fx_n hX), nf_end (Fx_n hX), mb3_s, mb2_s, if_neg (Fx_n hX)]
    exact rl_bad hP (by omega) (by omega) fa5 fm5 hX rfl rfl
  obtain ⟨v5, z4, z5, z6⟩ := nu_nat (lo := 0) (hi := v4 - 1) z1 z2 z3 (by omega) (by omega)
  rw [z4] at e5 e7
  have t5 : M5 732 24 = sI T := by rw [fm5 _ _ (by omega) (by omega) (by omega)]; exact pT.2.1
  rw [show DX8_number fu 0 (sI v4 - 1) A4 Lc = _ from h45 ▸ e5, mb3_s, mset_n (show ¬ (732 = 744 ∧ 13 = T) by omega), e74, h45, show DX19_number fu 0 (sI (v4 - 1)) (mset M4 744 T (sI v4)) Lm = _ from e6, mb3_s, if_neg (show ¬ (1 : Int32) = 0 by decide), t5, mck_s hc (by omega), mlet_e, sI_nn (by omega), e7]
  have L5p : Ld A5 (mset M5 745 T (sI v5)) n tx le _ := Ld_n hL5 (fun p y u => mset_n (by omega))
  have fm5p : fG T S M (mset M5 745 T (sI v5)) := fun x y u1 u2 u3 => by rw [mset_n (by omega), fm5 x y u1 u2 u3]
  obtain ⟨A6, M6, f11, f12, hr⟩ := st_number (fu := fu) (Lc := Lc) (Lm := Lm) (a1 := sI 1) (a2 := sI 1000) hfu L5p
  have fa6 : fWn A A6 := fun x y u => by rw [f11 x y (by omega), fa5 x y u]
  have fm6 : fG T S M M6 := fun x y u1 u2 u3 => by rw [f12 x y (by omega), fm5p x y u1 u2 u3]
  rcases hr with ⟨hk6, z1, z2, z3, e5, e6, e7, hL6, _⟩ | ⟨e5, e6, hX⟩
  rotate_left
  · rw [show DX8_number fu 1 1000 A5 Lc = _ from e5, mb3_s, show DX19_number fu 1 1000 (mset M5 745 T (sI v5)) Lm = _ from e6, mb3_s, if_pos (show (0 : Int32) = 0 from rfl)]
    simp only [nf_told (Fx_n hX), nf_number (Fx_n hX), nf_end (Fx_n hX), mb3_s, mb2_s, if_neg (Fx_n hX)]
    exact rl_bad hP (by omega) (by omega) fa6 fm6 hX rfl rfl
  obtain ⟨v6, z4, z5, z6⟩ := nu_nat (lo := 1) (hi := 1000) z1 z2 z3 (by omega) (by omega)
  rw [z4] at e5 e7
  have t6 : M6 732 24 = sI T := by rw [fm6 _ _ (by omega) (by omega) (by omega)]; exact pT.2.1
  rw [show DX8_number fu 1 1000 A5 Lc = _ from e5, mb3_s, show DX19_number fu 1 1000 (mset M5 745 T (sI v5)) Lm = _ from e6, mb3_s, if_neg (show ¬ (1 : Int32) = 0 by decide), t6, mck_s hc (by omega), mlet_e, sI_nn (by omega), e7]
  have L6p : Ld A6 (mset M6 746 T (sI v6)) n tx le _ := Ld_n hL6 (fun p y u => mset_n (by omega))
  have fm6p : fG T S M (mset M6 746 T (sI v6)) := fun x y u1 u2 u3 => by rw [mset_n (by omega), fm6 x y u1 u2 u3]
  obtain ⟨A7, M7, f13, f14, hr⟩ := st_eol (fu := fu) (Lc := Lc) (Lm := Lm) hfu L6p
  have fa7 : fWn A A7 := fun x y u => by rw [f13 x y (by omega), fa6 x y u]
  have fm7 : fG T S M M7 := fun x y u1 u2 u3 => by rw [f14 x y (by omega), fm6p x y u1 u2 u3]
  rcases hr with ⟨hk7, e8, e9, hL7⟩ | ⟨e8, e9, hX⟩
  rotate_left
  · rw [e8, mb2_s, if_neg (Fx_n hX), e9, mb3_s, if_pos (show (0 : Int32) = 0 from rfl)]
    exact rl_bad hP (by omega) (by omega) fa7 fm7 hX rfl rfl
  obtain ⟨k7, k8, k9⟩ := nw_2 k5 k6 hk3
  obtain ⟨k10, k11, k12⟩ := nw_2 k8 k9 hk4
  obtain ⟨k13, k14, k15⟩ := nw_2 k11 k12 hk5
  obtain ⟨k16, k17, k18⟩ := nw_2 k14 k15 hk6
  have l9 := hL7.2.2.2.2.2.2.2.2
  -- what the reference wrote on its way
  have r3 : M7 743 T = sI v3 := by rw [f14 _ _ (by omega), mset_n (by omega), f12 _ _ (by omega), mset_n (by omega), f10 _ _ (by omega), mset_n (by omega), f8 _ _ (by omega), mset_s]
  have r4 : M7 744 T = sI v4 := by rw [f14 _ _ (by omega), mset_n (by omega), f12 _ _ (by omega), mset_n (by omega), f10 _ _ (by omega), mset_s]
  have r5 : M7 745 T = sI v5 := by rw [f14 _ _ (by omega), mset_n (by omega), f12 _ _ (by omega), mset_s]
  have r6 : M7 746 T = sI v6 := by rw [f14 _ _ (by omega), mset_s]
  have hP2 := PR_f hP (A' := A7) (M' := M7) (fun a y u => fa7 a y (by omega)) (fun a y u1 u2 u3 => fm7 a y (by omega) u2 u3)
  obtain ⟨⟨c1', c2', c3'⟩, pT', pX', pB', pS', pK', pR', pW', pN', nB'⟩ := hP2
  have nl0 := nB.1
  obtain ⟨t1, t2, t3, t4, t5⟩ := id pT'
  generalize hM8 : mset (mset (mset (mset M7 741 T (sI (nwB tx le a))) 742 T (sI co)) 747 T (-1)) 748 T 0 = M8
  have fm8 : ∀ x y, ¬ ((x = 741 ∨ x = 742 ∨ x = 747 ∨ x = 748) ∧ y = T) → M8 x y = M7 x y := fun x y u => by rw [← hM8, mset_n (by omega), mset_n (by omega), mset_n (by omega), mset_n (by omega)]
  have s2 : M8 742 T = sI co := by rw [← hM8, mset_n (by omega), mset_n (by omega), mset_s]
  have s7 : M8 747 T = -1 := by rw [← hM8, mset_n (by omega), mset_s]
  have s8 : M8 748 T = 0 := by rw [← hM8, mset_s]
  have N8 := NaR_f pN' (A' := A7) (M' := M8) (fun _ _ _ => rfl) (fun x y u => fm8 x y (by omega))
  obtain ⟨A9, M9, g1, g2, g3, g4, g5⟩ := st_keep (fu := fu) (w := nwB tx le a) (s := nwE tx le a - nwB tx le a) (k := 1) (v := T) (Lc := Lc) (Lm := Lm) N8 l9 (by rw [f13 _ _ (by omega), f11 _ _ (by omega), f9 _ _ (by omega), f7 _ _ (by omega), f5 _ _ (by omega), f3 _ _ (by omega)]; exact w10) (by rw [f13 _ _ (by omega), f11 _ _ (by omega), f9 _ _ (by omega), f7 _ _ (by omega), f5 _ _ (by omega), f3 _ _ (by omega)]; exact w11) (by omega) (by omega) (by omega) (by have := pX.2.2.1; have := pS.2.2.1; omega) (by omega) (by omega)
  rw [e8, mb2_s, if_pos l9, t1, show DX8_keepName fu 0 1 (sI T) A7 Lc = _ from g1, mb2_s, c_addTask (T := T) (by rw [g4 _ _ (by omega) (by omega)]; exact t1) hc, mb2_s, e9, mb3_s, if_neg (show ¬ (1 : Int32) = 0 by decide)]
  have Rr : mck (M7 732 24) 12 (mlet (mset M7 741 ((M7 732 24).toNatClampNeg) (sI (nwB tx le a))) (fun M40 => mck (M40 732 24) 12 (mlet (mset M40 742 ((M40 732 24).toNatClampNeg) (sI co)) (fun M42 => mck (M42 732 24) 12 (mlet (mset M42 747 ((M42 732 24).toNatClampNeg) ((-1))) (fun M44 => mck (M44 732 24) 12 (mlet (mset M44 748 ((M44 732 24).toNatClampNeg) 0) (fun M46 => mb2 (DX19_addName fu (sI (nwB tx le a)) (sI (nwE tx le a - nwB tx le a)) 2 (M46 732 24) M46 Lm) (fun M47 L48 => mlet (mset M47 732 24 ((M47 732 24) + 1)) (fun M49 => some ((1 : Int32), M49, L48))))))))))) = some (1, mset M9 732 24 (sI (T + 1)), Lm) := by
    simp (disch := omega) only [mset_n, t2, mck_s, sI_nn, mlet_e]
    rw [hM8, show DX19_addName fu (sI (nwB tx le a)) (sI (nwE tx le a - nwB tx le a)) 2 (sI T) M8 Lm = _ from g2, mb2_s, g5 _ _ (by omega) (by omega), fm8 _ _ (by omega), t2, sI_1]
  rw [Rr]
  generalize hA0 : mset (mset (mset (mset (mset (mset (mset (mset (mset (mset (mset (mset A9 7 T (sI v3)) 8 T (sI co)) 9 T (sI v4)) 10 T (sI v6)) 11 T (sI v5)) 12 T 0) 13 T 0) 14 T 0) 15 T 0) 16 T 0) 17 T 0) 5 3 (sI (T + 1)) = A0
  have hA4 : ∀ x y, ¬ (x = 5 ∧ y = 3) → ¬ (7 ≤ x ∧ x ≤ 17 ∧ y = T) → ¬ (x = 1 ∧ y = 3) → ¬ (726 ≤ x ∧ x ≤ 730) → A0 x y = A7 x y := fun x y u1 u2 u3 u4 => by
    rw [← hA0]
    simp (disch := omega) only [mset_n]
    exact g4 x y u3 u4
  have hM4 : ∀ x y, ¬ (x = 732 ∧ y = 24) → ¬ (x = 732 ∧ y = 14) → ¬ (734 ≤ x ∧ x ≤ 737) → ¬ ((x = 741 ∨ x = 742 ∨ x = 747 ∨ x = 748) ∧ y = T) → mset M9 732 24 (sI (T + 1)) x y = M7 x y := fun x y u1 u2 u3 u4 => by rw [mset_n (by omega), g5 x y u2 u3, fm8 x y u4]
  have hM5 : ∀ x y, 741 ≤ x → x ≤ 748 → mset M9 732 24 (sI (T + 1)) x y = M8 x y := fun x y u1 u2 => by rw [mset_n (by omega), g5 x y (by omega) (by omega)]
  refine ⟨A0, _, Lc, Lm, true, rfl, rfl, ⟨fun p y u => ?_, fun p y u => ?_, ?_, ?_⟩, ?_, C, T + 1, X, S, K, R, W, nl ++ [(0, nwB tx le a, nwE tx le a - nwB tx le a, 1, T)], fun i => if i = T then co else ow i, ct, sg, tu, ky, rd, wt, ⟨⟨by rw [hA4 _ _ (by omega) (by omega) (by omega) (by omega)]; exact c1', by rw [hM4 _ _ (by omega) (by omega) (by omega) (by omega)]; exact c2', c3⟩, ?_, PrX_n (PrX_o (PrX_f pX' (fun x y u => hA4 x y (by omega) (by omega) (by omega) (by omega)) (fun x y u => hM4 x y (by omega) (by omega) (by omega) (by omega)) (fun _ _ _ => rfl) (fun _ _ => rfl)) (by omega) (fun i hi => if_neg (by omega))) rfl, PrB_f pB' (fun x u1 u2 => hM4 x 0 (by omega) (by omega) (by omega) (by omega)) (fun _ _ _ _ _ => rfl) (fun _ _ _ _ _ => rfl), PrS_o (PrS_f pS' (fun x y u => hA4 x y (by omega) (by omega) (by omega) (by omega)) (fun x y u => hM4 x y (by omega) (by omega) (by omega) (by omega))) (Nat.le_refl _) (fun x hx => by have := (pX.2.2.2.1 x hx).2.1; exact if_neg (by omega)), PrK_f pK' (fun x y u => hA4 x y (by omega) (by omega) (by omega) (by omega)) (fun x y u => hM4 x y (by omega) (by omega) (by omega) (by omega)), RdR_f pR' (fun x y u => hA4 x y (by omega) (by omega) (by omega) (by omega)) (fun x y u => hM4 x y (by omega) (by omega) (by omega) (by omega)) (fun _ => rfl) (fun _ => rfl), PrW_f pW' (fun x y u1 u2 => hA4 x y (by omega) (by omega) (by omega) (by omega)) (fun x y u => hM4 x y (by omega) (by omega) (by omega) (by omega)) (fun _ => rfl), NaR_f g3 (fun x y u => by
      rw [← hA0]
      simp (disch := omega) only [mset_n]) (fun x y u => mset_n (by omega)), NmB_0 nB rfl (by omega) (by omega) (by omega) (by omega) (by omega) (Or.inr (Or.inl ⟨rfl, by show T < T + 1; omega⟩))⟩, ?_, by omega⟩
  · rw [hA4 p y (by omega) (by omega) (by omega) (by omega), fa7 p y (by omega)]
  · rw [hM4 p y (by omega) (by omega) (by omega) (by omega), fm7 p y (by omega) (by omega) (by omega)]
  · exact fun _ _ => rfl
  · exact fun _ _ _ => rfl
  · rw [if_pos rfl, hA4 _ _ (by omega) (by omega) (by omega) (by omega)]
    exact l9
  · refine ⟨by rw [← hA0, mset_s], mset_s, by omega, fun i hi => ?_, fun i i1 i2 => by rw [hA4 _ _ (by omega) (by omega) (by omega) (by omega)]; exact t5 i (by omega) i2⟩
    by_cases ci : i = T
    · subst ci
      dsimp only
      rw [if_pos rfl, hM5 _ _ (by omega) (by omega), hM5 _ _ (by omega) (by omega), hM5 _ _ (by omega) (by omega), hM5 _ _ (by omega) (by omega), hM5 _ _ (by omega) (by omega), hM5 _ _ (by omega) (by omega), hM5 _ _ (by omega) (by omega), s2, s7, s8, fm8 743 i (by omega), fm8 744 i (by omega), fm8 745 i (by omega), fm8 746 i (by omega), r3, r4, r5, r6]
      refine ⟨?_, rfl, hco, ⟨v3, v4, v5, v6, ?_, rfl, by omega, ?_, rfl, by omega, by omega, ?_, rfl, by omega, ?_, rfl, by omega, by omega⟩, fun x x1 x2 => ?_, rfl, Or.inl ⟨?_, rfl⟩⟩
      · rw [← hA0]
        simp (disch := omega) only [mset_n, mset_s]
      · rw [← hA0]
        simp (disch := omega) only [mset_n, mset_s]
      · rw [← hA0]
        simp (disch := omega) only [mset_n, mset_s]
      · rw [← hA0]
        simp (disch := omega) only [mset_n, mset_s]
      · rw [← hA0]
        simp (disch := omega) only [mset_n, mset_s]
      · rw [← hA0]
        have : x = 12 ∨ x = 13 ∨ x = 14 ∨ x = 15 ∨ x = 16 ∨ x = 17 := by omega
        rcases this with rfl | rfl | rfl | rfl | rfl | rfl <;> simp (disch := omega) only [mset_n, mset_s]
      · rw [hA4 _ _ (by omega) (by omega) (by omega) (by omega)]
        exact t5 i (by omega) (by omega)
    · obtain ⟨b1, b2, b3, ⟨pr, pe, ou, wk, b4⟩, b5, b6, b7⟩ := t4 i (by omega)
      dsimp only
      rw [if_neg ci, hA4 _ _ (by omega) (by omega) (by omega) (by omega), hM4 _ _ (by omega) (by omega) (by omega) (by omega)]
      refine ⟨b1, b2, b3, ⟨pr, pe, ou, wk, ?_⟩, fun x x1 x2 => ?_, ?_, ?_⟩
      · rw [hA4 7 _ (by omega) (by omega) (by omega) (by omega), hA4 9 _ (by omega) (by omega) (by omega) (by omega), hA4 11 _ (by omega) (by omega) (by omega) (by omega), hA4 10 _ (by omega) (by omega) (by omega) (by omega), hM4 743 _ (by omega) (by omega) (by omega) (by omega), hM4 744 _ (by omega) (by omega) (by omega) (by omega), hM4 745 _ (by omega) (by omega) (by omega) (by omega), hM4 746 _ (by omega) (by omega) (by omega) (by omega)]
        exact b4
      · rw [hA4 _ _ (by omega) (by omega) (by omega) (by omega)]
        exact b5 x x1 x2
      · rw [hM4 _ _ (by omega) (by omega) (by omega) (by omega)]
        exact b6
      · rw [hA4 _ _ (by omega) (by omega) (by omega) (by omega), hM4 _ _ (by omega) (by omega) (by omega) (by omega)]
        exact b7
  · rw [List.length_append]
    show 12 * (nl.length + 1) ≤ le + 1
    omega
