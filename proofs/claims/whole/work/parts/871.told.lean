/-! READING: a state or a datum must come -/
theorem st_stt {fu n le a x X : Nat} {A M : mwM} {Lc Lm : mwL} {tx : Nat → Nat} {nl : List Nm} (hfu : 6100 ≤ fu) (h : Ld A M n tx le a) (hN : NaR A M n X nl) (hx : x < X) : ∃ A' M', fW A A' ∧ fR M M' ∧ ((∃ i, i < (nsL (1 + 2 * x) nl).length ∧ nwK tx le a = true ∧ DX8_toldName fu (sI (1 + 2 * x)) 4 A Lc = some (sI (i + 1), A', Lc) ∧ DX19_state fu (sI x) M Lm = some (sI (i + 1), M', Lm) ∧ Ld A' M' n tx le (nwE tx le a) ∧ Hw A' M' (nwB tx le a) (nwE tx le a)) ∨ (DX8_toldName fu (sI (1 + 2 * x)) 4 A Lc = some (0, A', Lc) ∧ DX19_state fu (sI x) M Lm = some (-1, M', Lm) ∧ Fx A' M')) := by
  obtain ⟨A1, M1, f1, f2, hr⟩ := st_must (fu := fu) (Lc := Lc) (Lm := Lm) hfu h
  have hN1 : NaR A1 M1 n X nl := NaR_f hN (fun x y u => f1 x y (by omega)) (fun x y u => f2 x y (by omega))
  unfold DX8_toldName DX19_state
  rcases hr with ⟨hk', e1, e2, hL, hH⟩ | ⟨e1, e2, hX⟩
  · obtain ⟨w8, w9, m9, m10, hlt⟩ := id hH
    obtain ⟨l1, l2, l3, l4, l5, l6, l7, l8, l9⟩ := id hL
    obtain ⟨nC, nO, nM, nX, nS⟩ := hN1
    have hn := l1.2.1
    have ec := c_told (σ := 1 + 2 * x) (k := 4) (L := Lc) hfu l1 w8 w9 hlt (by omega) l9 nC nO (by omega) (by omega)
    rw [e1, mb3_s, if_neg (show ¬ (1 : Int32) = 0 by decide), e2, mb3_s, if_neg (show ¬ (1 : Int32) = 0 by decide)]
    rw [show (4 : Int32) = sI 4 from rfl, ec]
    obtain ⟨r, x1, x2⟩ := m_findState (fu := fu) (L := Lm) hfu l2 m9 m10 hlt (by omega) (show x < 12 by omega) (nS x hx).1 (NmO_s nO)
    rw [x1, mb3_s]
    rcases x2 with ⟨y1, y2⟩ | ⟨i, hi, y1, y2⟩
    · rw [y2, y1, if_neg (by decide), show (sI 4) = 4 from rfl, m_fail, mb3_s, if_pos (show (0 : Int32) = 0 from rfl), m9]
      refine ⟨_, _, ?_, ?_, Or.inr ⟨rfl, rfl, Fx_i (k := 4) (w := nwB tx le a) (M := M1) (by omega) (by omega) (by omega)⟩⟩
      · intro p y u
        rw [mset_n (by omega), mset_n (by omega), f1 p y u]
      · intro p y u
        rw [mset_n (by omega), mset_n (by omega), f2 p y u]
    · obtain ⟨_, hl, z⟩ := (nS x hx).1
      obtain ⟨a1, a2, a3, a4⟩ := z i hi
      rw [y2, y1, if_pos (show (0 : Int32) < sI (i + 1) by rw [show (0 : Int32) = sI 0 from rfl, sI_lt (by omega) (by omega)]; omega)]
      dsimp only
      rw [if_pos a3, a4]
      exact ⟨A1, M1, f1, f2, Or.inl ⟨i, hi, hk', rfl, rfl, hL, hH⟩⟩
  · rw [e1, mb3_s, if_pos (show (0 : Int32) = 0 from rfl), e2, mb3_s, if_pos (show (0 : Int32) = 0 from rfl)]
    exact ⟨A1, M1, f1, f2, Or.inr ⟨rfl, rfl, hX⟩⟩
theorem st_dat {fu n le a x X : Nat} {A M : mwM} {Lc Lm : mwL} {tx : Nat → Nat} {nl : List Nm} (hfu : 6100 ≤ fu) (h : Ld A M n tx le a) (hN : NaR A M n X nl) (hx : x < X) : ∃ A' M', fW A A' ∧ fR M M' ∧ ((∃ i, i < (nsL (2 + 2 * x) nl).length ∧ nwK tx le a = true ∧ DX8_toldName fu (sI (2 + 2 * x)) 5 A Lc = some (sI i, A', Lc) ∧ DX19_datum fu (sI x) M Lm = some (sI i, M', Lm) ∧ Ld A' M' n tx le (nwE tx le a) ∧ Hw A' M' (nwB tx le a) (nwE tx le a)) ∨ (DX8_toldName fu (sI (2 + 2 * x)) 5 A Lc = some (0, A', Lc) ∧ DX19_datum fu (sI x) M Lm = some (-1, M', Lm) ∧ Fx A' M')) := by
  obtain ⟨A1, M1, f1, f2, hr⟩ := st_must (fu := fu) (Lc := Lc) (Lm := Lm) hfu h
  have hN1 : NaR A1 M1 n X nl := NaR_f hN (fun x y u => f1 x y (by omega)) (fun x y u => f2 x y (by omega))
  unfold DX8_toldName DX19_datum
  rcases hr with ⟨hk', e1, e2, hL, hH⟩ | ⟨e1, e2, hX⟩
  · obtain ⟨w8, w9, m9, m10, hlt⟩ := id hH
    obtain ⟨l1, l2, l3, l4, l5, l6, l7, l8, l9⟩ := id hL
    obtain ⟨nC, nO, nM, nX, nS⟩ := hN1
    have hn := l1.2.1
    have ec := c_told (σ := 2 + 2 * x) (k := 5) (L := Lc) hfu l1 w8 w9 hlt (by omega) l9 nC nO (by omega) (by omega)
    rw [e1, mb3_s, if_neg (show ¬ (1 : Int32) = 0 by decide), e2, mb3_s, if_neg (show ¬ (1 : Int32) = 0 by decide)]
    rw [show (5 : Int32) = sI 5 from rfl, ec]
    obtain ⟨r, x1, x2⟩ := m_findDatum (fu := fu) (L := Lm) hfu l2 m9 m10 hlt (by omega) (show x < 12 by omega) (nS x hx).2 (NmO_s nO)
    rw [x1, mb3_s]
    rcases x2 with ⟨y1, y2⟩ | ⟨i, hi, y1, y2⟩
    · rw [y2, y1, if_neg (by decide), m_fail, mb3_s, if_pos (show (0 : Int32) = 0 from rfl), m9]
      refine ⟨_, _, ?_, ?_, Or.inr ⟨rfl, rfl, Fx_i (k := 4) (w := nwB tx le a) (M := M1) (by omega) (by omega) (by omega)⟩⟩
      · intro p y u
        rw [mset_n (by omega), mset_n (by omega), f1 p y u]
      · intro p y u
        rw [mset_n (by omega), mset_n (by omega), f2 p y u]
    · obtain ⟨_, hl, z⟩ := (nS x hx).2
      obtain ⟨a1, a2, a3, a4⟩ := z i hi
      rw [y2, y1, if_pos (show (0 : Int32) ≤ sI i by rw [show (0 : Int32) = sI 0 from rfl, sI_le (by omega) (by omega)]; omega)]
      dsimp only
      rw [if_pos a3, a4]
      exact ⟨A1, M1, f1, f2, Or.inl ⟨i, hi, hk', rfl, rfl, hL, hH⟩⟩
  · rw [e1, mb3_s, if_pos (show (0 : Int32) = 0 from rfl), e2, mb3_s, if_pos (show (0 : Int32) = 0 from rfl)]
    exact ⟨A1, M1, f1, f2, Or.inr ⟨rfl, rfl, hX⟩⟩
/-- the reference takes a word, if it comes -/
theorem m_takes {fu n le a : Nat} {a1 : Int64} {W : List Nat} {M : mwM} {L : mwL} {tx : Nat → Nat} (hfu : 6100 ≤ fu) (hT : TxM M n tx) (h6 : M 732 6 = sI a) (h7 : M 732 7 = sI le) (ha : a ≤ le) (hle : le ≤ n) (hW : okW W a1 0 = true) : ∃ M', fR M M' ∧ (if nwK tx le a = true ∧ isW tx (nwB tx le a) (nwE tx le a - nwB tx le a) W = true then DX19_takes fu a1 M L = some (1, M', L) ∧ M' 732 6 = sI (nwE tx le a) ∧ M' 732 9 = sI (nwB tx le a) ∧ M' 732 10 = sI (nwE tx le a) else DX19_takes fu a1 M L = some (0, M', L) ∧ M' 732 6 = sI a) := by
  obtain ⟨M1, m1, m2, m3, m4⟩ := m_next (fu := fu) (L := L) hfu hT h6 h7 ha hle
  obtain ⟨b1, b2, b3, b4, b5, b6, b7, _⟩ := nw_b (tx := tx) ha
  unfold DX19_takes fX19_takes_b23
  rw [mlet_e, h6, m1, mb3_s]
  cases hk : nwK tx le a with
  | false =>
    rw [bI_f, if_pos (show (0 : Int32) = 0 from rfl), mlet_e]
    refine ⟨mset M1 732 6 (sI a), fun x y u => by rw [mset_n (by omega), m4 x y (by omega)], ?_⟩
    rw [if_neg (fun z => absurd z.1 (by decide))]
    exact ⟨rfl, mset_s⟩
  | true =>
    obtain ⟨p1, p2, p3⟩ := m2 hk
    rw [bI_t, if_neg (show ¬ (1 : Int32) = 0 by decide), m_is9 (by omega) (TxM_f hT (fun x y u => m4 x y (by omega))) p2 p3 (b5 hk) (by omega) hW, mb3_s]
    cases hi : isW tx (nwB tx le a) (nwE tx le a - nwB tx le a) W with
    | false =>
      rw [bI_f, if_pos (show (0 : Int32) = 0 from rfl), mlet_e]
      refine ⟨mset M1 732 6 (sI a), fun x y u => by rw [mset_n (by omega), m4 x y (by omega)], ?_⟩
      rw [if_neg (fun z => absurd z.2 (by decide))]
      exact ⟨rfl, mset_s⟩
    | true =>
      rw [bI_t, if_neg (show ¬ (1 : Int32) = 0 by decide)]
      refine ⟨M1, fun x y u => m4 x y (by omega), ?_⟩
      rw [if_pos ⟨rfl, rfl⟩]
      exact ⟨rfl, p1, p2, p3⟩
theorem Ld_m {A M M' : mwM} {n le a : Nat} {tx : Nat → Nat} (h : Ld A M n tx le a) (hM : fR M M') (h6 : M' 732 6 = sI a) : Ld A M' n tx le a := by
  obtain ⟨h1, h2, h3, h4, h5, h6', h7, h8, h9⟩ := h
  exact ⟨h1, TxM_f h2 (fun x y u => hM x y (by omega)), h3, by rw [hM _ _ (by omega)]; exact h4, h5, h6', h6, h8, h9⟩
/-- an optional word: the class; and the reference's takes -/
theorem st_opt {fu n le a i : Nat} {a1 : Int64} {W : List Nat} {A M : mwM} {Lc Lm : mwL} {tx : Nat → Nat} (hfu : 6100 ≤ fu) (h : Ld A M n tx le a) (hW : okW W a1 0 = true) (hc : chB i 0 W = true) (hl : W.length = sln i) (hl2 : sln i ≤ 100) : ∃ A' M', fW A A' ∧ fR M M' ∧ ((nwK tx le a = true ∧ DX8_optional fu i A Lc = some (1, A', Lc) ∧ DX19_takes fu a1 M Lm = some (1, M', Lm) ∧ Ld A' M' n tx le (nwE tx le a) ∧ Hw A' M' (nwB tx le a) (nwE tx le a)) ∨ (nwK tx le a = false ∧ DX8_optional fu i A Lc = some (0, A', Lc) ∧ DX19_takes fu a1 M Lm = some (0, M', Lm) ∧ Ld A' (mset M' 732 6 (sI (nwB tx le a))) n tx le (nwB tx le a) ∧ M' 732 6 = sI a ∧ TxM M' n tx ∧ M' 732 7 = sI le) ∨ (nwK tx le a = true ∧ DX8_optional fu i A Lc = some (0, A', Lc) ∧ DX19_takes fu a1 M Lm = some (0, M', Lm) ∧ A' 1 12 = sI 2 ∧ A' 1 13 = sI (nwB tx le a) ∧ M' 732 6 = sI a ∧ TxM M' n tx ∧ M' 732 7 = sI le)) := by
  obtain ⟨hC, hM, h6, h7, hle, h5, h6', ha, h12⟩ := h
  have hn := hC.2.1
  obtain ⟨A1, e1, e2, e3, e4⟩ := c_next (fu := fu) (L := Lc) hfu hC h5 h6 ha hle
  obtain ⟨M1, m1, m2⟩ := m_takes (fu := fu) (L := Lm) hfu hM h6' h7 ha hle hW
  obtain ⟨b1, b2, b3, b4, b5, b6, b7, _⟩ := nw_b (tx := tx) ha
  have k12 : A1 1 12 = 0 := by rw [e4 _ _ (by omega)]; exact h12
  have hC1 : TxC A1 n tx := TxC_f hC (fun x y u => e4 x y (by omega))
  have hM1 : TxM M1 n tx := TxM_f hM (fun x y u => m1 x y (by omega))
  have q6 : A1 1 6 = sI le := by rw [e4 _ _ (by omega)]; exact h6
  have q7 : M1 732 7 = sI le := by rw [m1 _ _ (by omega)]; exact h7
  unfold DX8_optional
  rw [if_pos h12, e1, mb2_s]
  cases hk : nwK tx le a with
  | false =>
    obtain ⟨q1, q2, q3⟩ := e3 hk
    rw [if_neg (fun z => absurd (hk.symm.trans z.1) (by decide))] at m2
    refine ⟨A1, M1, fun x y u => e4 x y (by omega), m1, Or.inr (Or.inl ⟨rfl, ?_, m2.1, ⟨hC1, TxM_f hM1 (fun x y u => mset_n (by omega)), q6, by rw [mset_n (by omega)]; exact q7, hle, q1, mset_s, b2, k12⟩, m2.2, hM1, q7⟩)⟩
    unfold fX8_optional_b37 fX8_optional_b55 fX8_optional_b56
    rw [q3, if_pos (show sI 0 ≤ 0 by decide), if_pos (show sI 0 ≤ 0 by decide)]
    rfl
  | true =>
    obtain ⟨q1, q2, q3⟩ := e2 hk
    have hlt := b5 hk
    have nz : ¬ sI (nwE tx le a - nwB tx le a) ≤ 0 := by rw [show (0 : Int32) = sI 0 from rfl, sI_le (by omega) (by omega)]; omega
    rw [q3, if_neg nz, c_isWord (by omega) hC1 q2 q3 (by omega) hl hl2 hc, mb3_s]
    cases hi : isW tx (nwB tx le a) (nwE tx le a - nwB tx le a) W with
    | true =>
      rw [if_pos ⟨hk, hi⟩] at m2
      refine ⟨A1, M1, fun x y u => e4 x y (by omega), m1, Or.inl ⟨rfl, ?_, m2.1, ⟨hC1, hM1, q6, q7, hle, q1, m2.2.1, b4, k12⟩, q2, q3, m2.2.2.1, m2.2.2.2, hlt⟩⟩
      unfold fX8_optional_b37 fX8_optional_b55 fX8_optional_b56
      rw [bI_t, if_neg (show ¬ (1 : Int32) = 0 by decide), q3, if_neg nz, if_pos k12]
      rfl
    | false =>
      rw [if_neg (fun z => absurd (hi.symm.trans z.2) (by decide))] at m2
      refine ⟨mset (mset A1 1 12 (sI 2)) 1 13 (sI (nwB tx le a)), M1, fun x y u => by rw [mset_n (by omega), mset_n (by omega), e4 x y (by omega)], m1, Or.inr (Or.inr ⟨rfl, ?_, m2.1, by rw [mset_n (by omega), mset_s], mset_s, m2.2, hM1, q7⟩)⟩
      unfold fX8_optional_b37 fX8_optional_b55 fX8_optional_b56
      rw [bI_f, if_pos (show (0 : Int32) = 0 from rfl), c_fail k12, mb2_s, q2, mset_n (show ¬ (1 = 1 ∧ 9 = 13) by omega), mset_n (show ¬ (1 = 1 ∧ 9 = 12) by omega), q3, if_neg nz, if_neg (by
        rw [mset_n (by omega), mset_s]
        decide)]
      rfl
