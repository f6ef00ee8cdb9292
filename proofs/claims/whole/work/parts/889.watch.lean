/-! READING: the line of a watch -/
theorem st_lwatch {fu n le a b C T X S K R W : Nat} {A M : mwM} {Lc Lm : mwL} {tx : Nat → Nat} {nl : List Nm} {ow ct : Nat → Nat} {sg : Nat → Nat → Nat} {tu : Nat → Bool} {ky rd wt : Nat → Nat → Nat} (hfu : 6100 ≤ fu) (h : Ld A M n tx le a) (hP : PR A M Lc Lm n C T X S K R W nl ow ct sg tu ky rd wt) (h7 : A 1 7 = sI b) (h8 : M 732 8 = sI b) (hbn : b ≤ 6000) (hl : 12 * nl.length ≤ a) (hk : 15 * K ≤ a) : RlQ A M Lc Lm n le (DX8_readWatch fu A Lc) (DX19_addWatch fu M Lm) := by
  obtain ⟨⟨c1, c2, c3⟩, pT, pX, pB, pS, pK, pR, pW, pN, nB⟩ := id hP
  have ha := h.2.2.2.2.2.2.2.1
  have hX12 := pX.2.2.1
  have hS40 := pS.2.2.1
  have hT12 := pT.2.2.1
  obtain ⟨A1, M1, f1, f2, hr⟩ := st_told (fu := fu) (Lc := Lc) (Lm := Lm) (k := 3) hfu h pN (by omega)
  have fa1 : fWn A A1 := fun x y u => f1 x y (by omega)
  have fm1 : fG T S M M1 := fun x y u1 u2 u3 => f2 x y (by omega)
  unfold DX8_readWatch DX19_addWatch fX8_readWatch_b77 fX19_addWatch_b19 fX19_addWatch_b42
  rcases hr with ⟨q, q1, q2, q3, hk1, e1, e2, hL1, hH1⟩ | ⟨e1, e2, hX⟩
  rotate_left
  · rw [show DX8_toldName fu 0 3 A Lc = _ from e1, mb3_s, show DX19_named fu 4 M Lm = _ from e2, mb3_s, if_neg (show ¬ (0 : Int32) ≤ -1 by decide), if_pos (show (-1 : Int32) < 0 by decide), nf_told (Fx_n hX), mb3_s, nf_number (Fx_n hX), mb3_s, nf_end (Fx_n hX), mb2_s, nf_ref (Fx_n hX), mb2_s, if_neg (Fx_n hX)]
    exact rl_bad hP (by omega) (by omega) fa1 fm1 hX rfl rfl
  have hs : q.2.2.2.2 < S := by
    rcases (nB.2 q q1).2 q2 with g | g | g | g <;> omega
  rw [show DX8_toldName fu 0 3 A Lc = _ from e1, mb3_s, show DX19_named fu 4 M Lm = _ from e2, mb3_s, if_pos (ge_s (by omega))]
  generalize hs' : q.2.2.2.2 = s at *
  have N1 := NaR_f pN (A' := A1) (M' := M1) (fun x y u => fa1 x y (by omega)) (fun x y u => fm1 x y (by omega) (by omega) (by omega))
  obtain ⟨A2, M2, f3, f4, hr⟩ := st_told (fu := fu) (Lc := Lc) (Lm := Lm) (k := 0) hfu hL1 N1 (by omega)
  have fa2 : fWn A A2 := fun x y u => by rw [f3 x y (by omega), fa1 x y u]
  have fm2 : fG T S M M2 := fun x y u1 u2 u3 => by rw [f4 x y (by omega), fm1 x y u1 u2 u3]
  rcases hr with ⟨q', q1', q2', q3', hk2, e3, e4, hL2, _⟩ | ⟨e3, e4, hX⟩
  rotate_left
  · rw [show DX8_toldName fu 0 0 A1 Lc = _ from e3, mb3_s, show DX19_named fu 1 M1 Lm = _ from e4, mb3_s, if_pos (show (-1 : Int32) < 0 by decide), nf_number (Fx_n hX), mb3_s, nf_end (Fx_n hX), mb2_s, nf_ref (Fx_n hX), mb2_s, if_neg (Fx_n hX)]
    exact rl_bad hP (by omega) (by omega) fa2 fm2 hX rfl rfl
  have hco : q'.2.2.2.2 < C := by
    rcases (nB.2 q' q1').2 q2' with g | g | g | g <;> omega
  rw [show DX8_toldName fu 0 0 A1 Lc = _ from e3, mb3_s, show DX19_named fu 1 M1 Lm = _ from e4, mb3_s, if_neg (ns_s (by omega))]
  generalize hco' : q'.2.2.2.2 = co at *
  obtain ⟨A4, M4, f7, f8, hr⟩ := st_number (fu := fu) (Lc := Lc) (Lm := Lm) (a1 := sI 1) (a2 := sI 255) hfu hL2
  have fa4 : fWn A A4 := fun x y u => by rw [f7 x y (by omega), fa2 x y u]
  have fm4 : fG T S M M4 := fun x y u1 u2 u3 => by rw [f8 x y (by omega), fm2 x y u1 u2 u3]
  rcases hr with ⟨hk4, z1, z2, z3, e7, e8, e9, hL4, _⟩ | ⟨e7, e8, hX⟩
  rotate_left
  · rw [show DX8_number fu 1 255 A2 Lc = _ from e7, mb3_s, show DX19_number fu 1 255 M2 Lm = _ from e8, mb3_s, if_pos (show (0 : Int32) = 0 from rfl), nf_end (Fx_n hX), mb2_s, nf_ref (Fx_n hX), mb2_s, if_neg (Fx_n hX)]
    exact rl_bad hP (by omega) (by omega) fa4 fm4 hX rfl rfl
  obtain ⟨v, y4, y5, y6⟩ := nu_nat (lo := 1) (hi := 255) z1 z2 z3 (by omega) (by omega)
  rw [y4] at e7 e9
  rw [show DX8_number fu 1 255 A2 Lc = _ from e7, mb3_s, show DX19_number fu 1 255 M2 Lm = _ from e8, mb3_s, if_neg (show ¬ (1 : Int32) = 0 by decide)]
  obtain ⟨A5, M5, f9, f10, hr⟩ := st_eol (fu := fu) (Lc := Lc) (Lm := Lm) hfu hL4
  have fa5 : fWn A A5 := fun x y u => by rw [f9 x y (by omega), fa4 x y u]
  have fm5 : fG T S M M5 := fun x y u1 u2 u3 => by rw [f10 x y (by omega), fm4 x y u1 u2 u3]
  rcases hr with ⟨hk5, e10, e11, hL5⟩ | ⟨e10, e11, hX⟩
  rotate_left
  · rw [e10, mb2_s, nf_ref (Fx_n hX), mb2_s, if_neg (Fx_n hX), e11, mb3_s, if_pos (show (0 : Int32) = 0 from rfl)]
    exact rl_bad hP (by omega) (by omega) fa5 fm5 hX rfl rfl
  have l9 := hL5.2.2.2.2.2.2.2.2
  have hP5 := PR_f hP (A' := A5) (M' := M5) (fun a y u => fa5 a y (by omega)) (fun a y u1 u2 u3 => fm5 a y (by omega) u2 u3)
  obtain ⟨⟨c1', c2', c3'⟩, pT', pX', pB', pS', pK', pR', ⟨⟨r1, r2, r3, r4⟩, rT, rP, rZ⟩, pN', nB'⟩ := hP5
  have g7 : A5 1 7 = sI b := by rw [fa5 _ _ (by omega)]; exact h7
  have g8 : M5 732 8 = sI b := by rw [fm5 _ _ (by omega) (by omega) (by omega)]; exact h8
  have m13 : M5 732 13 = sI v := by rw [f10 _ _ (by omega)]; exact e9
  obtain ⟨_, ⟨s66, _, _, s66'⟩, ⟨_, s62, s62'⟩, _, _, s68, _⟩ := pS'.2.2.2 s hs
  obtain ⟨w1, w2, w3, _⟩ := pX'.2.2.2.1 (sg 2 s) s62'
  have t2 := (pT'.2.2.2.1 (ct (sg 2 s)) w2).2.1
  have t4 := (pT'.2.2.2.1 (ct (sg 2 s)) w2).2.2.1
  have snd : DX19_senderOf fu (sI s) M5 Lm = some (sI (ow (ct (sg 2 s))), M5, Lm) := by
    unfold DX19_senderOf
    rw [mck_s (show s < 40 by omega) (by omega), sI_nn (by omega), s62, mck_s (show sg 2 s < 12 by omega) (by omega), sI_nn (by omega), w1, mck_s (show ct (sg 2 s) < 12 by omega) (by omega), sI_nn (by omega), t2]
  rw [e10, mb2_s, c_refuse l9 (show s < 40 by omega) s68 g7, e11, mb3_s, if_neg (show ¬ (1 : Int32) = 0 by decide), snd, mb3_s]
  by_cases cc : co = ow (ct (sg 2 s))
  · have hX : Fx (flA A5 (sI 7) (sI b)) (mset (mset M5 732 11 7) 732 12 (sI b)) := Fx_i (k := 7) (by omega) (by omega) hbn
    rw [if_pos (show sI (ow (ct (sg 2 s))) = sI co by rw [cc]), mb2_s, if_neg (Fx_n hX), if_pos (show sI co = sI (ow (ct (sg 2 s))) by rw [cc]), m_fail, mb3_s, g8]
    exact rl_bad hP (by omega) (by omega) (fl_fr fa5) (fun x y u1 u2 u3 => by rw [mset_n (by omega), mset_n (by omega), fm5 x y u1 u2 u3]) hX rfl rfl
  rw [if_neg (show ¬ sI (ow (ct (sg 2 s))) = sI co by rw [sI_eq (by omega) (by omega)]; omega), mb2_s, if_pos l9, mck_s (show s < 40 by omega) (by omega), mlet_e, sI_nn (k := s) (by omega), s66, show (3 : Int32) * sI (sg 1 s) = sI (3 * sg 1 s) from sI_lml, if_neg (show ¬ sI co = sI (ow (ct (sg 2 s))) by rw [sI_eq (by omega) (by omega)]; omega), r2]
  by_cases c30 : W = 30
  · have hX : Fx (flA A5 (sI 6) (sI b)) (mset (mset M5 732 11 6) 732 12 (sI b)) := Fx_i (k := 6) (by omega) (by omega) hbn
    have cA : DX10_addWatch fu (sI s) (sI co) (sI v) (sI (3 * sg 1 s)) A5 Lc = some (-4, A5, Lc) := by
      unfold DX10_addWatch
      rw [if_neg (show ¬ A5 139 2 < 30 by rw [r1, show (30 : Int32) = sI 30 from rfl, sI_lt (by omega) (by omega)]; omega)]
    rw [cA, mb3_s, c_heed l9 g7 (by decide), mb2_s, if_pos (show sI W = 30 by rw [c30]; rfl), m_fail, mb3_s, g8]
    exact rl_bad hP (by omega) (by omega) (fl_fr fa5) (fun x y u1 u2 u3 => by rw [mset_n (by omega), mset_n (by omega), fm5 x y u1 u2 u3]) hX rfl rfl
  have hW : W < 30 := by omega
  generalize hM6 : mset (mset M5 775 W (sI s)) 776 W (sI co) = M6
  have fm6 : ∀ x y, ¬ ((x = 775 ∨ x = 776) ∧ y = W) → M6 x y = M5 x y := fun x y u => by rw [← hM6, mset_n (by omega), mset_n (by omega)]
  have u5 : M6 775 W = sI s := by rw [← hM6, mset_n (by omega), mset_s]
  have u6 : M6 776 W = sI co := by rw [← hM6, mset_s]
  obtain ⟨A7, M7, i1, i2, i3, i4, i5, i6, i7, i8, i9, i10, i11⟩ := st_code (fu := fu) (L := Lc) (L2 := Lm) (s := sI s) (c := sI co) (pt := sI (3 * sg 1 s)) (p := v) (M := M6) (by omega) hW y5 (by omega) (by rw [fm6 _ _ (by omega)]; exact (rZ (W + 1) (by omega) (by omega)).1) (by rw [fm6 _ _ (by omega)]; exact (rZ (W + 1) (by omega) (by omega)).2) (RTr_fr rT (fun _ _ _ _ => rfl) (fun x y u1 u2 _ => fm6 x y (by omega)))
  have Rr : mck (sI W) 30 (mlet (mset M5 775 ((sI W).toNatClampNeg) (sI s)) (fun M16 => mck (M16 732 62) 30 (mlet (mset M16 776 ((M16 732 62).toNatClampNeg) (sI co)) (fun M18 => mb3 (DX18_code fu (M18 732 13) 64 127 M18 Lm) (fun r21 M19 L20 => mck (M18 732 62) 30 (mlet (mset M19 777 ((M18 732 62).toNatClampNeg) r21) (fun M23 => mck (M23 732 62) 30 (mlet (mset L20 778 ((M23 732 62).toNatClampNeg) 0) (fun L25 => mlet (mset M23 732 62 ((M23 732 62) + 1)) (fun M26 => some ((1 : Int32), M26, L25))))))))))) = some (1, mset (mset M7 777 W (sI (W + 1))) 732 62 (sI (W + 1)), mset Lm 778 W 0) := by
    rw [mck_s hW (by omega), sI_nn (by omega), mlet_e, mset_n (show ¬ (732 = 775 ∧ 62 = W) by omega), r2, mck_s hW (by omega), sI_nn (by omega), mlet_e, hM6, fm6 732 13 (by omega), m13, i2, mb3_s, fm6 732 62 (by omega), r2, mck_s hW (by omega), sI_nn (by omega), mlet_e, mset_n (show ¬ (732 = 777 ∧ 62 = W) by omega), i11 732 62 (by omega), fm6 732 62 (by omega), r2, mck_s hW (by omega), sI_nn (by omega), mlet_e, mlet_e, sI_1]
  rw [i1, mb3_s, c_heed0 (by omega), mb2_s, if_neg (show ¬ sI W = 30 by rw [show (30 : Int32) = sI 30 from rfl, sI_eq (by omega) (by omega)]; omega), Rr]
  generalize hM0 : mset (mset M7 777 W (sI (W + 1))) 732 62 (sI (W + 1)) = M0
  have hM4 : ∀ x y, ¬ (x = 732 ∧ y = 62) → ¬ (775 ≤ x ∧ x ≤ 777 ∧ y = W) → ¬ (902 ≤ x ∧ x ≤ 920) → M0 x y = M5 x y := fun x y u1 u2 u3 => by rw [← hM0, mset_n (by omega), mset_n (by omega), i11 x y u3, fm6 x y (by omega)]
  have hM7 : ∀ x y, 902 ≤ x → x ≤ 920 → M0 x y = M7 x y := fun x y u1 u2 => by rw [← hM0, mset_n (by omega), mset_n (by omega)]
  have hA4 : ∀ x y, ¬ (x = 139 ∧ y = 2) → ¬ (y = W ∧ 141 ≤ x ∧ x ≤ 150) → A7 x y = A5 x y := i8
  have hL0 : ∀ x, x ≠ 778 → mset Lm 778 W 0 x = Lm x := fun x hx => by
    funext y
    exact mset_n (by omega)
  refine ⟨A7, M0, Lc, mset Lm 778 W 0, true, rfl, rfl, ⟨fun p y u => ?_, fun p y u => ?_, ?_, ?_⟩, ?_, C, T, X, S, K, R, W + 1, nl, ow, ct, sg, tu, ky, rd, fun i j => if j = W then (if i = 0 then s else co) else wt i j, ⟨⟨by rw [hA4 _ _ (by omega) (by omega)]; exact c1', by rw [hM4 _ _ (by omega) (by omega) (by omega)]; exact c2', c3⟩, PrT_f pT' (fun x y u => hA4 x y (by omega) (by omega)) (fun x y u => hM4 x y (by omega) (by omega) (by omega)), PrX_f pX' (fun x y u => hA4 x y (by omega) (by omega)) (fun x y u => hM4 x y (by omega) (by omega) (by omega)) (fun _ _ _ => rfl) (fun x hx => hL0 x (by omega)), PrB_f pB' (fun x u1 u2 => hM4 x 0 (by omega) (by omega) (by omega)) (fun _ _ _ _ _ => rfl) (fun x y u1 u2 u3 => by rw [hL0 x (by omega)]), PrS_f pS' (fun x y u => hA4 x y (by omega) (by omega)) (fun x y u => hM4 x y (by omega) (by omega) (by omega)), PrK_f pK' (fun x y u => hA4 x y (by omega) (by omega)) (fun x y u => hM4 x y (by omega) (by omega) (by omega)), RdR_f pR' (fun x y u => hA4 x y (by omega) (by omega)) (fun x y u => hM4 x y (by omega) (by omega) (by omega)) (fun _ => rfl) (fun y => by rw [hL0 _ (by omega)]), ⟨⟨?_, by rw [← hM0, mset_s], by omega, fun w hw => ?_⟩, ?_, fun w hw => ?_, fun j j1 j2 => ?_⟩, NaR_f pN' (fun x y u => hA4 x y (by omega) (by omega)) (fun x y u => hM4 x y (by omega) (by omega) (by omega)), nB⟩, by omega, by omega⟩
  · rw [hA4 p y (by omega) (by omega), fa5 p y (by omega)]
  · rw [hM4 p y (by omega) (by omega) (by omega), fm5 p y (by omega) (by omega) (by omega)]
  · exact fun _ _ => rfl
  · exact fun p u1 u2 => hL0 p u2
  · rw [if_pos rfl, hA4 _ _ (by omega) (by omega)]
    exact l9
  · exact i3.2.1
  · dsimp only
    by_cases ci : w = W
    · subst ci
      rw [if_pos rfl, if_pos rfl, if_pos rfl, if_neg (show ¬ 1 = 0 by omega), i4, i5, i7, mset_s, ← hM0, mset_n (by omega), mset_n (by omega), mset_n (by omega), mset_n (by omega), mset_n (by omega), mset_s, i11 _ _ (by omega), i11 _ _ (by omega), u5, u6]
      exact ⟨rfl, rfl, hs, rfl, rfl, by omega, rfl, 0, by omega, rfl, rfl⟩
    · obtain ⟨b1, b2, b3, b4, b5, b6, b7, nt, b8, b9, b10⟩ := r4 w (by omega)
      rw [if_neg ci, if_neg ci, hA4 _ _ (by omega) (by omega), hA4 _ _ (by omega) (by omega), hM4 _ _ (by omega) (by omega) (by omega), hM4 _ _ (by omega) (by omega) (by omega), hM4 _ _ (by omega) (by omega) (by omega)]
      exact ⟨b1, b2, b3, b4, b5, b6, b7, nt, b8, by rw [hA4 _ _ (by omega) (by omega)]; exact b9, by rw [mset_n (by omega)]; exact b10⟩
  · exact RTr_fr i3 (fun _ _ _ _ => rfl) (fun x y u1 u2 _ => hM7 x y u1 u2)
  · dsimp only
    by_cases ci : w = W
    · rw [if_pos ci, if_pos rfl, ci]
      exact i6
    · rw [if_neg ci, hA4 _ _ (by omega) (by omega)]
      exact rP w (by omega)
  · rw [hM7 _ _ (by omega) (by omega), hM7 _ _ (by omega) (by omega), i9, i10, fm6 _ _ (by omega), fm6 _ _ (by omega)]
    exact rZ j (by omega) j2
