/-! READING: the line of a chart -/
theorem ns_none {σ : Nat} {nl : List Nm} (h : ∀ q, q ∈ nl → q.1 ≠ σ) : nsL σ nl = [] := by
  unfold nsL
  rw [List.filter_eq_nil_iff]
  intro q hq
  simp [h q hq]
theorem c_addCh {fu X t l : Nat} {A : mwM} {L : mwL} {va : Nat → Int32} (hfu : 6100 ≤ fu) (h : A 3 14 = sI X) (hX : X < 12) (ht : t < 12) (hl : l ≤ 50) : ∃ A' L', DX1_addChart fu (sI t) (sI l) A L = some (A', L') ∧ ReC (293 + 36 * X) A' L' (c00 l) b00 va (D00 (L (293 + 36 * X + 34))) (fun _ => 0) ∧ A' (293 + 36 * X) 5 = A 8 t ∧ A' (293 + 36 * X) 11 = 0 ∧ A' (293 + 36 * X) 13 = 0 ∧ A' 283 t = sI X ∧ A' 3 14 = sI (X + 1) ∧ (∀ b y, ¬ (293 + 36 * X ≤ b ∧ b ≤ 293 + 36 * X + 33) → ¬ (b = 283 ∧ y = t) → ¬ (b = 3 ∧ y = 14) → A' b y = A b y) ∧ ∀ b, b ≠ 293 + 36 * X + 34 → L' b = L b := by
  obtain ⟨A1, L1, e1, e2, e3, e4, e5, e6, e7, e8⟩ := wq_ex (c_begin (fu := fu) (k := 293 + 36 * X) (l := l) (A := A) (L := L) (a := A 8 t) (va := va) (by omega) hl)
  dsimp only at e2 e3 e4 e5 e6 e7 e8
  have h1 : A1 3 14 = sI X := by rw [e7 _ _ (by omega)]; exact h
  refine ⟨mset (mset A1 283 t (sI X)) 3 14 (sI (X + 1)), L1, ?_, ReC_f e2 (fun a y a1 a2 _ _ _ _ => by rw [mset_n (by omega), mset_n (by omega)]) rfl, by rw [mset_n (by omega), mset_n (by omega)]; exact e3, by rw [mset_n (by omega), mset_n (by omega)]; exact e4, by rw [mset_n (by omega), mset_n (by omega)]; exact e6, by rw [mset_n (by omega), mset_s], mset_s, fun b y u1 u2 u3 => by rw [mset_n (by omega), mset_n (by omega), e7 b y u1], e8⟩
  unfold DX1_addChart
  rw [h, mck_s hX (by omega), mck_s ht (by omega), sI_nn (by omega), sI_nn (by omega), e1, mb2_s, mlet_e, h1, mlet_e, mset_n (show ¬ (3 = 283 ∧ 14 = t) by omega), h1, sI_1, mck_s ht (by omega)]
theorem st_chart {fu n le a C T X S K R W : Nat} {A M : mwM} {Lc Lm : mwL} {tx : Nat → Nat} {nl : List Nm} {ow ct : Nat → Nat} {sg : Nat → Nat → Nat} {tu : Nat → Bool} {ky rd wt : Nat → Nat → Nat} (hfu : 6100 ≤ fu) (h : Ld A M n tx le a) (hP : PR A M Lc Lm n C T X S K R W nl ow ct sg tu ky rd wt) (hb : a < le → tx a = 32) (hl : 12 * nl.length + 5 ≤ a) (hk : 15 * K ≤ a) : RlQ A M Lc Lm n le (DX8_readChart fu A Lc) (DX19_addChart fu M Lm) := by
  obtain ⟨⟨c1, c2, c3⟩, pT, pX, pB, pS, pK, pR, pW, pN, nB⟩ := id hP
  have ha := h.2.2.2.2.2.2.2.1
  have hle := h.2.2.2.2.1
  have hn := h.1.2.1
  have hX12 := pX.2.2.1
  have hT12 := pT.2.2.1
  obtain ⟨A1, M1, f1, f2, hr⟩ := st_newName (fu := fu) (Lc := Lc) (Lm := Lm) (had := X) (most := 12) hfu h pN (by omega) (by omega)
  have fa1 : fWn A A1 := f1
  have fm1 : fG T S M M1 := fun x y u1 u2 u3 => f2 x y (by omega)
  unfold DX8_readChart DX19_addChart fX8_readChart_b64 fX8_readChart_b93 fX19_addChart_b56
  rw [pX.1, pX.2.1]
  rcases hr with ⟨hc, hk1, e1, e2, hL, hH, w10, w11⟩ | ⟨e1, e2, hX⟩
  rotate_left
  · rw [show DX8_newName fu 0 (sI X) 12 A Lc = _ from e1, mb2_s, show DX19_newName fu (sI X) 12 M Lm = _ from e2, mb3_s, if_pos (show (0 : Int32) = 0 from rfl)]
    simp only [nf_told (Fx_n hX), nf_number (Fx_n hX), nf_end (Fx_n hX), mb3_s, mb2_s, mlet_e, if_neg (Fx_n hX)]
    exact rl_bad hP (by omega) (by omega) fa1 fm1 hX rfl rfl
  obtain ⟨k1, k2, k3⟩ := nw_2 ha hb hk1
  obtain ⟨w8, w9, m9, m10, hlt⟩ := id hH
  rw [show DX8_newName fu 0 (sI X) 12 A Lc = _ from e1, mb2_s, show DX19_newName fu (sI X) 12 M Lm = _ from e2, mb3_s, if_neg (show ¬ (1 : Int32) = 0 by decide), mlet_e, mlet_e, m9, m10, sI_sub (by omega)]
  have N1 := NaR_f pN (A' := A1) (M' := M1) (fun x y u => fa1 x y (by omega)) (fun x y u => fm1 x y (by omega) (by omega) (by omega))
  obtain ⟨A2, M2, f3, f4, hr⟩ := st_told (fu := fu) (Lc := Lc) (Lm := Lm) (k := 1) hfu hL N1 (by omega)
  have fa2 : fWn A A2 := fun x y u => by rw [f3 x y (by omega), fa1 x y u]
  have fm2 : fG T S M M2 := fun x y u1 u2 u3 => by rw [f4 x y (by omega), fm1 x y u1 u2 u3]
  rcases hr with ⟨q, q1, q2, q3, hk2, e3, e4, hL2, hH2⟩ | ⟨e3, e4, hX⟩
  rotate_left
  · rw [show DX8_toldName fu 0 1 A1 Lc = _ from e3, mb3_s, show DX19_named fu 2 M1 Lm = _ from e4, mb3_s, mlet_e, mlet_e, if_pos (show (-1 : Int32) < 0 by decide)]
    simp only [nf_told (Fx_n hX), nf_number (Fx_n hX), nf_end (Fx_n hX), mb3_s, mb2_s, if_neg (Fx_n hX)]
    exact rl_bad hP (by omega) (by omega) fa2 fm2 hX rfl rfl
  obtain ⟨k4, k5, k6⟩ := nw_2 k2 k3 hk2
  obtain ⟨y8, _, n9, _, _⟩ := id hH2
  have ht : q.2.2.2.2 < T := by
    rcases (nB.2 q q1).2 q2 with g | g | g | g <;> omega
  rw [show DX8_toldName fu 0 1 A1 Lc = _ from e3, mb3_s, show DX19_named fu 2 M1 Lm = _ from e4, mb3_s, mlet_e, mlet_e, y8, n9, if_neg (show ¬ sI q.2.2.2.2 < 0 by rw [show (0 : Int32) = sI 0 from rfl, sI_lt (by omega) (by omega)]; omega)]
  generalize ht' : q.2.2.2.2 = t at *
  obtain ⟨A3, M3, f5, f6, hr⟩ := st_number (fu := fu) (Lc := Lc) (Lm := Lm) (a1 := sI 0) (a2 := sI 50) hfu hL2
  have fa3 : fWn A A3 := fun x y u => by rw [f5 x y (by omega), fa2 x y u]
  have fm3 : fG T S M M3 := fun x y u1 u2 u3 => by rw [f6 x y (by omega), fm2 x y u1 u2 u3]
  rcases hr with ⟨hk3, z1, z2, z3, e5, e6, e7, hL3, _⟩ | ⟨e5, e6, hX⟩
  rotate_left
  · rw [show DX8_number fu 0 50 A2 Lc = _ from e5, mb3_s, show DX19_number fu 0 50 M2 Lm = _ from e6, mb3_s, if_pos (show (0 : Int32) = 0 from rfl)]
    simp only [nf_end (Fx_n hX), mb3_s, mb2_s, if_neg (Fx_n hX)]
    exact rl_bad hP (by omega) (by omega) fa3 fm3 hX rfl rfl
  obtain ⟨l, z4, z5, z6⟩ := nu_nat (lo := 0) (hi := 50) z1 z2 z3 (by omega) (by omega)
  rw [z4] at e5 e7
  obtain ⟨k7, k8, k9⟩ := nw_2 k5 k6 hk3
  rw [show DX8_number fu 0 50 A2 Lc = _ from e5, mb3_s, show DX19_number fu 0 50 M2 Lm = _ from e6, mb3_s, if_neg (show ¬ (1 : Int32) = 0 by decide), mlet_e, e7]
  obtain ⟨A4, M4, f7, f8, hr⟩ := st_eol (fu := fu) (Lc := Lc) (Lm := Lm) hfu hL3
  have fa4 : fWn A A4 := fun x y u => by rw [f7 x y (by omega), fa3 x y u]
  have fm4 : fG T S M M4 := fun x y u1 u2 u3 => by rw [f8 x y (by omega), fm3 x y u1 u2 u3]
  rcases hr with ⟨hk4, e8, e9, hL4⟩ | ⟨e8, e9, hX⟩
  rotate_left
  · rw [e8, mb2_s, if_neg (Fx_n hX), if_neg (Fx_n hX), e9, mb3_s, if_pos (show (0 : Int32) = 0 from rfl)]
    exact rl_bad hP (by omega) (by omega) fa4 fm4 hX rfl rfl
  have l9 := hL4.2.2.2.2.2.2.2.2
  have hP2 := PR_f hP (A' := A4) (M' := M4) (fun a y u => fa4 a y (by omega)) (fun a y u1 u2 u3 => fm4 a y (by omega) u2 u3)
  obtain ⟨⟨c1', c2', c3'⟩, pT', pX', pB', pS', pK', pR', pW', pN', nB'⟩ := hP2
  obtain ⟨t1, t2, t3, t4, t5⟩ := id pT'
  obtain ⟨x1, x2, x3, x4, x5⟩ := id pX'
  obtain ⟨g1, g2, g3, g4, g5, g6, g7⟩ := t4 t ht
  rw [e8, mb2_s, if_pos l9, mck_s (show t < 12 by omega) (by omega), sI_nn (by omega), e9, mb3_s, if_neg (show ¬ (1 : Int32) = 0 by decide), mck_s (show t < 12 by omega) (by omega)]
  rcases g7 with ⟨u1, u2⟩ | ⟨z, uz, u1, u2⟩
  rotate_left
  · have nz : ¬ sI z < 0 := by rw [show (0 : Int32) = sI 0 from rfl, sI_lt (by omega) (by omega)]; omega
    have hX : Fx (mset (mset A4 1 12 7) 1 13 (sI (nwB tx le (nwE tx le a)))) (mset (mset M4 732 11 7) 732 12 (sI (nwB tx le (nwE tx le a)))) := Fx_i (k := 7) (by omega) (by omega) (by have := (nw_b (tx := tx) k2).2.1; omega)
    rw [u1, if_neg nz, u2, if_neg nz, c_fail l9, mb2_s, if_neg (Fx_n hX), m_fail, mb3_s]
    exact rl_bad hP (by omega) (by omega) (fun x y u => by rw [mset_n (by omega), mset_n (by omega), fa4 x y u]) (fun x y u1 u2 u3 => by rw [mset_n (by omega), mset_n (by omega), fm4 x y u1 u2 u3]) hX rfl rfl
  rw [u1, if_pos (show (-1 : Int32) < 0 by decide), if_pos l9, u2, if_pos (show (-1 : Int32) < 0 by decide), mck_s (show t < 12 by omega) (by omega)]
  have nl0 := nB.1
  -- the reference
  generalize hM5 : mset (mset (mset (mset (mset (mset (mset M4 747 t (sI X)) 749 X (sI t)) 750 X 0) 751 X 0) 752 X 0) 754 X 0) 757 X 0 = M5
  have fm5 : ∀ x y, ¬ (x = 747 ∧ y = t) → ¬ ((x = 749 ∨ x = 750 ∨ x = 751 ∨ x = 752 ∨ x = 754 ∨ x = 757) ∧ y = X) → M5 x y = M4 x y := fun x y u1 u2 => by
    rw [← hM5]
    simp (disch := omega) only [mset_n]
  have s7 : M5 747 t = sI X := by
    rw [← hM5]
    simp (disch := omega) only [mset_n, mset_s]
  have s9 : M5 749 X = sI t := by
    rw [← hM5]
    simp (disch := omega) only [mset_n, mset_s]
  have s50 : M5 750 X = 0 := by
    rw [← hM5]
    simp (disch := omega) only [mset_n, mset_s]
  have s51 : M5 751 X = 0 := by
    rw [← hM5]
    simp (disch := omega) only [mset_n, mset_s]
  have s52 : M5 752 X = 0 := by
    rw [← hM5]
    simp (disch := omega) only [mset_n, mset_s]
  have s54 : M5 754 X = 0 := by
    rw [← hM5]
    simp (disch := omega) only [mset_n, mset_s]
  have s57 : M5 757 X = 0 := by
    rw [← hM5]
    simp (disch := omega) only [mset_s]
  obtain ⟨b1, b2, b3, b4⟩ := pB' X hc
  obtain ⟨M6, Lm6, d1, d2, d3, d4, d5, d6⟩ := wq_ex (m_anew (fu := fu) (q := 964 + 53 * X) (l := l) (M := M5) (L := Lm) (va := fun _ => 0) (by omega) z6 ⟨by rw [fm5 _ _ (by omega) (by omega)]; exact b1, by rw [fm5 _ _ (by omega) (by omega)]; exact b2, by rw [fm5 _ _ (by omega) (by omega)]; exact b3⟩)
  dsimp only at d2 d3 d4 d5 d6
  have fm6 : ∀ x y, ¬ (964 ≤ x) → ¬ (x = 747 ∧ y = t) → ¬ ((x = 749 ∨ x = 750 ∨ x = 751 ∨ x = 752 ∨ x = 754 ∨ x = 757) ∧ y = X) → M6 x y = M4 x y := fun x y u0 u1 u2 => by rw [d5 x y (by omega), fm5 x y u1 u2]
  have fm6' : ∀ x y, 964 ≤ x → ¬ (964 + 53 * X ≤ x ∧ x ≤ 964 + 53 * X + 16) → M6 x y = M4 x y := fun x y u0 u1 => by rw [d5 x y u1, fm5 x y (by omega) (by omega)]
  have N6 : NaR A4 M6 n X nl := by
    obtain ⟨nC, nO, nM, nX, nS⟩ := pN'
    refine ⟨nC, nO, ?_, nX, fun x hx => ?_⟩
    · obtain ⟨i1, i2, i3⟩ := nM
      refine ⟨by rw [fm6 _ _ (by omega) (by omega) (by omega)]; exact i1, i2, fun j hj => ?_⟩
      rw [fm6 _ _ (by omega) (by omega) (by omega), fm6 _ _ (by omega) (by omega) (by omega), fm6 _ _ (by omega) (by omega) (by omega), fm6 _ _ (by omega) (by omega) (by omega)]
      exact i3 j hj
    · obtain ⟨⟨i1, i2, i3⟩, ⟨j1, j2, j3⟩⟩ := nS x hx
      refine ⟨⟨by rw [fm6 _ _ (by omega) (by omega) (by omega)]; exact i1, i2, fun j hj => ?_⟩, ⟨by rw [fm6 _ _ (by omega) (by omega) (by omega)]; exact j1, j2, fun j hj => ?_⟩⟩
      · rw [fm6 _ _ (by omega) (by omega) (by omega), fm6 _ _ (by omega) (by omega) (by omega)]
        exact i3 j hj
      · rw [fm6 _ _ (by omega) (by omega) (by omega), fm6 _ _ (by omega) (by omega) (by omega)]
        exact j3 j hj
  obtain ⟨A7, M7, g8, g9, g10, g11, g12⟩ := st_keep (fu := fu) (w := nwB tx le a) (s := nwE tx le a - nwB tx le a) (k := 2) (v := X) (Lc := Lc) (Lm := Lm6) N6 l9 (by rw [f7 _ _ (by omega), f5 _ _ (by omega), f3 _ _ (by omega)]; exact w10) (by rw [f7 _ _ (by omega), f5 _ _ (by omega), f3 _ _ (by omega)]; exact w11) (by omega) (by omega) (by omega) (by have := pS.2.2.1; omega) (by omega) (by omega)
  obtain ⟨A8, Lc8, i1, i2, i3, i4, i5, i6, i7, i8, i9⟩ := c_addCh (fu := fu) (X := X) (t := t) (l := l) (A := A7) (L := Lc) (va := fun _ => 0) hfu (by rw [g11 _ _ (by omega) (by omega)]; exact x1) hc (by omega) z6
  have Rr : mlet (mset M4 747 t (M4 732 33)) (fun M24 => mck (M24 732 33) 12 (mlet (mset M24 749 ((M24 732 33).toNatClampNeg) (sI t)) (fun M26 => mck (M26 732 33) 12 (mlet (mset M26 750 ((M26 732 33).toNatClampNeg) 0) (fun M28 => mck (M28 732 33) 12 (mlet (mset M28 751 ((M28 732 33).toNatClampNeg) 0) (fun M30 => mck (M30 732 33) 12 (mlet (mset M30 752 ((M30 732 33).toNatClampNeg) 0) (fun M32 => mck (M32 732 33) 12 (mlet (mset M32 754 ((M32 732 33).toNatClampNeg) 0) (fun M34 => mck (M34 732 33) 12 (mlet (mset M34 757 ((M34 732 33).toNatClampNeg) 0) (fun M36 => mck (M36 732 33) 12 (mb2 (DX13_anew fu ((964 + 53 * (M36 732 33).toNatClampNeg)) (sI l) M36 Lm) (fun M38 L39 => mb2 (DX19_addName fu (sI (nwB tx le a)) (sI (nwE tx le a - nwB tx le a)) 3 (M38 732 33) M38 L39) (fun M40 L41 => mlet (mset M40 732 33 ((M40 732 33) + 1)) (fun M42 => some ((1 : Int32), M42, L41)))))))))))))))))) = some (1, mset M7 732 33 (sI (X + 1)), Lm6) := by
    simp (disch := omega) only [mset_n, x2, mck_s, sI_nn, mlet_e]
    rw [hM5, d1, mb2_s, fm6 732 33 (by omega) (by omega) (by omega), x2, show DX19_addName fu (sI (nwB tx le a)) (sI (nwE tx le a - nwB tx le a)) 3 (sI X) M6 Lm6 = _ from g9, mb2_s, g12 _ _ (by omega) (by omega), fm6 732 33 (by omega) (by omega) (by omega), x2, sI_1]
  rw [x1, show DX8_keepName fu 0 2 (sI X) A4 Lc = _ from g8, mb2_s, i1, mb2_s]
  rw [Rr]
  have hA4 : ∀ x y, ¬ (293 + 36 * X ≤ x ∧ x ≤ 293 + 36 * X + 33) → ¬ (x = 283 ∧ y = t) → ¬ (x = 3 ∧ y = 14) → ¬ (x = 1 ∧ y = 3) → ¬ (726 ≤ x ∧ x ≤ 730) → A8 x y = A4 x y := fun x y u1 u2 u3 u4 u5 => by rw [i8 x y u1 u2 u3, g11 x y u4 u5]
  have hM4 : ∀ x y, ¬ (964 ≤ x) → ¬ (x = 747 ∧ y = t) → ¬ ((x = 749 ∨ x = 750 ∨ x = 751 ∨ x = 752 ∨ x = 754 ∨ x = 757) ∧ y = X) → ¬ (x = 732 ∧ (y = 14 ∨ y = 33)) → ¬ (734 ≤ x ∧ x ≤ 737) → mset M7 732 33 (sI (X + 1)) x y = M4 x y := fun x y u1 u2 u3 u4 u5 => by rw [mset_n (by omega), g12 x y (by omega) u5, fm6 x y u1 u2 u3]
  have hM6 : ∀ x y, 964 ≤ x → mset M7 732 33 (sI (X + 1)) x y = M6 x y := fun x y u1 => by rw [mset_n (by omega), g12 x y (by omega) (by omega)]
  have hM5' : ∀ x y, 747 ≤ x → x ≤ 757 → mset M7 732 33 (sI (X + 1)) x y = M5 x y := fun x y u1 u2 => by rw [mset_n (by omega), g12 x y (by omega) (by omega), d5 x y (by omega)]
  have hDD : D00 (Lc (293 + 36 * X + 34)) = D00 (Lm (964 + 53 * X + 21)) := by
    funext j
    unfold D00
    by_cases cj : j < 32
    · rw [if_pos cj, if_pos cj]
    · rw [if_neg cj, if_neg cj]
      exact b4 j (by omega)
  have nn : ∀ σ, 2 * X < σ → nsL σ (nl ++ [(0, nwB tx le a, nwE tx le a - nwB tx le a, 2, X)]) = [] := fun σ hσ => ns_none (fun z hz => by
    rcases List.mem_append.mp hz with hz | hz
    · have := (nB.2 z hz).1
      omega
    · rw [List.mem_singleton.mp hz]
      show 0 ≠ σ
      omega)
  have rmX : ReM (964 + 53 * X) (mset M7 732 33 (sI (X + 1))) Lm6 (c00 l) b00 (fun _ => 0) (D00 (Lc (293 + 36 * X + 34))) (fun _ => 0) := by
    rw [hDD]
    exact ReM_f d2 (fun x y u1 u2 _ => hM6 x y (by omega)) (fun _ _ _ => rfl)
  refine ⟨A8, _, Lc8, Lm6, true, rfl, rfl, ⟨fun p y u => ?_, fun p y u => ?_, ?_, ?_⟩, ?_, C, T, X + 1, S, K, R, W, nl ++ [(0, nwB tx le a, nwE tx le a - nwB tx le a, 2, X)], ow, fun x => if x = X then t else ct x, sg, tu, ky, rd, wt, ⟨⟨by rw [hA4 _ _ (by omega) (by omega) (by omega) (by omega) (by omega)]; exact c1', by rw [hM4 _ _ (by omega) (by omega) (by omega) (by omega) (by omega)]; exact c2', c3⟩, ?_, ?_, ?_, PrS_o (PrS_f pS' (fun x y u => hA4 x y (by omega) (by omega) (by omega) (by omega) (by omega)) (fun x y u => hM4 x y (by omega) (by omega) (by omega) (by omega) (by omega))) (by omega) (fun x hx => by
      show ow (if x = X then t else ct x) = _
      rw [if_neg (by omega)]), PrK_f pK' (fun x y u => hA4 x y (by omega) (by omega) (by omega) (by omega) (by omega)) (fun x y u => hM4 x y (by omega) (by omega) (by omega) (by omega) (by omega)), ?_, PrW_f pW' (fun x y u1 u2 => hA4 x y (by omega) (by omega) (by omega) (by omega) (by omega)) (fun x y u => hM4 x y (by omega) (by omega) (by omega) (by omega) (by omega)) (fun y => by rw [d6 _ (by omega)]), ?_, NmB_0 nB rfl (by omega) (by omega) (by omega) (by omega) (by omega) (Or.inr (Or.inr (Or.inl ⟨rfl, by show X < X + 1; omega⟩)))⟩, ?_, by omega⟩
  · rw [hA4 p y (by omega) (by omega) (by omega) (by omega) (by omega), fa4 p y (by omega)]
  · by_cases cp : 964 ≤ p
    · rw [hM6 p y cp, fm6' p y cp (by omega), fm4 p y (by omega) (by omega) (by omega)]
    · rw [hM4 p y (by omega) (by omega) (by omega) (by omega) (by omega), fm4 p y (by omega) (by omega) (by omega)]
  · exact fun p u => i9 p (by omega)
  · exact fun p u1 u2 => d6 p (by omega)
  · rw [if_pos rfl, hA4 _ _ (by omega) (by omega) (by omega) (by omega) (by omega)]
    exact l9
  · -- tasks
    refine ⟨by rw [hA4 _ _ (by omega) (by omega) (by omega) (by omega) (by omega)]; exact t1, by rw [hM4 _ _ (by omega) (by omega) (by omega) (by omega) (by omega)]; exact t2, t3, fun i hi => ?_, fun j j1 j2 => by rw [hA4 _ _ (by omega) (by omega) (by omega) (by omega) (by omega)]; exact t5 j j1 j2⟩
    obtain ⟨b1, b2, b3, ⟨pr, pe, ou, wk, b4⟩, b5, b6, b7⟩ := t4 i hi
    rw [hA4 8 _ (by omega) (by omega) (by omega) (by omega) (by omega), hM4 742 _ (by omega) (by omega) (by omega) (by omega) (by omega), hM4 748 _ (by omega) (by omega) (by omega) (by omega) (by omega)]
    refine ⟨b1, b2, b3, ⟨pr, pe, ou, wk, ?_⟩, fun x x1 x2 => ?_, b6, ?_⟩
    · rw [hA4 7 _ (by omega) (by omega) (by omega) (by omega) (by omega), hA4 9 _ (by omega) (by omega) (by omega) (by omega) (by omega), hA4 11 _ (by omega) (by omega) (by omega) (by omega) (by omega), hA4 10 _ (by omega) (by omega) (by omega) (by omega) (by omega), hM4 743 _ (by omega) (by omega) (by omega) (by omega) (by omega), hM4 744 _ (by omega) (by omega) (by omega) (by omega) (by omega), hM4 745 _ (by omega) (by omega) (by omega) (by omega) (by omega), hM4 746 _ (by omega) (by omega) (by omega) (by omega) (by omega)]
      exact b4
    · rw [hA4 _ _ (by omega) (by omega) (by omega) (by omega) (by omega)]
      exact b5 x x1 x2
    · by_cases ci : i = t
      · rw [ci]
        exact Or.inr ⟨X, by omega, i6, by rw [hM5' _ _ (by omega) (by omega)]; exact s7⟩
      · rw [hA4 _ _ (by omega) (by omega) (by omega) (by omega) (by omega), hM4 _ _ (by omega) (by omega) (by omega) (by omega) (by omega)]
        rcases b7 with b7 | ⟨z, z1, z2⟩
        · exact Or.inl b7
        · exact Or.inr ⟨z, by omega, z2⟩
  · -- charts
    refine ⟨i7, mset_s, by omega, fun x hx => ?_, fun x xa xb => by rw [hA4 _ _ (by omega) (by omega) (by omega) (by omega) (by omega)]; exact x5 x (by omega) xb⟩
    dsimp only
    by_cases cx : x = X
    · subst cx
      rw [if_pos rfl, nn _ (by omega), nn _ (by omega)]
      refine ⟨by rw [hM5' _ _ (by omega) (by omega)]; exact s9, ht, by rw [i3, g11 _ _ (by omega) (by omega)]; exact g1, i4, i5, by rw [hM5' _ _ (by omega) (by omega)]; exact s51, by rw [hM5' _ _ (by omega) (by omega)]; exact s52, d4, c00 l, fun _ => 0, D00 (Lc (293 + 36 * x + 34)), fun _ => 0, Cv_00 z6, i2, rmX, ClM_f d3 (fun a y u1 u2 _ => hM6 a y (by omega)) (fun _ _ _ => rfl), c00_0 (by omega), c00_0 (by omega), by rw [hM5' _ _ (by omega) (by omega), s50, c00_0 (by omega)]; rfl, fun s hs => ⟨c00_r (by omega), c00_r (by omega)⟩⟩
    · obtain ⟨b1, b2, b3, b4⟩ := x4 x (by omega)
      rw [if_neg cx, ns_app, if_neg (show ¬ 0 = 1 + 2 * x by omega), ns_app, if_neg (show ¬ 0 = 2 + 2 * x by omega)]
      have hxX : x < X := by omega
      exact ⟨by rw [hM4 _ _ (by omega) (by omega) (by omega) (by omega) (by omega)]; exact b1, b2, by rw [hA4 _ _ (by omega) (by omega) (by omega) (by omega) (by omega)]; exact b3, ChP_f b4 (fun p y u1 u2 => hA4 p y (by omega) (by omega) (by omega) (by omega) (by omega)) (fun p y u => by
        by_cases cp : 964 ≤ p
        · rw [hM6 p y cp, fm6' p y cp (by omega)]
        · exact hM4 p y (by omega) (by omega) (by omega) (by omega) (by omega)) (i9 _ (by omega)) (fun p u1 u2 => d6 p (by omega))⟩
  · -- what never changes
    intro x hx
    by_cases cx : x = X
    · subst cx
      obtain ⟨⟨_, r1⟩, _, _, ⟨_, _, _, _, _, r2, _⟩, _⟩ := rmX
      obtain ⟨_, _, _, ⟨_, _, _, _, _, r3⟩, _⟩ := i2
      obtain ⟨r4, r5, r6⟩ := r1 0 (by omega)
      refine ⟨r5, r4, r6, fun y _ => ?_⟩
      rw [r3, r2]
    · obtain ⟨b1, b2, b3, b4⟩ := pB' x hx
      rw [hM6 _ _ (by omega), hM6 _ _ (by omega), hM6 _ _ (by omega), fm6' _ _ (by omega) (by omega), fm6' _ _ (by omega) (by omega), fm6' _ _ (by omega) (by omega)]
      refine ⟨b1, b2, b3, fun y hy => ?_⟩
      rw [i9 _ (by omega), d6 _ (by omega)]
      exact b4 y hy
  · -- reads
    obtain ⟨r1, r2, r3, r4⟩ := RdR_f pR' (A' := A8) (M' := mset M7 732 33 (sI (X + 1))) (Lc' := Lc8) (Lm' := Lm6) (fun x y u => hA4 x y (by omega) (by omega) (by omega) (by omega) (by omega)) (fun x y u => hM4 x y (by omega) (by omega) (by omega) (by omega) (by omega)) (fun y => by rw [i9 _ (by omega)]) (fun y => by rw [d6 _ (by omega)])
    refine ⟨r1, r2, r3, fun r hr => ?_⟩
    obtain ⟨v1, v2, v3, v4, v5, v6, v7⟩ := r4 r hr
    exact ⟨v1, v2, v3, v4, v5, by omega, v7⟩
  · -- names
    obtain ⟨nC, nO, nM, nX, nS⟩ := NaR_f g10 (A' := A8) (M' := mset M7 732 33 (sI (X + 1))) (fun x y u => i8 x y (by omega) (by omega) (by omega)) (fun x y u => mset_n (by omega))
    refine ⟨nC, nO, nM, by omega, fun x hx => ?_⟩
    by_cases cx : x = X
    · subst cx
      rw [nn _ (by omega), nn _ (by omega)]
      exact ⟨⟨by rw [hM5' _ _ (by omega) (by omega)]; exact s54, by show 0 ≤ 200; omega, fun k hk => absurd hk (by simp)⟩, ⟨by rw [hM5' _ _ (by omega) (by omega)]; exact s57, by show 0 ≤ 32; omega, fun k hk => absurd hk (by simp)⟩⟩
    · exact nS x (by omega)
  · rw [List.length_append]
    show 12 * (nl.length + 1) ≤ le + 1
    omega
