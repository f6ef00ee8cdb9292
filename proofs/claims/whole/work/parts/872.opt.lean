/-! READING: an optional word and the end of the line; an event or the time; a parent -/
theorem sp_i {tx : Nat → Nat} : ∀ r w, (r = 0 ∨ tx w ≠ 32) → spF tx r w = w := by
  intro r w h
  cases r with
  | zero => rfl
  | succ r =>
    unfold spF
    rw [if_neg (h.resolve_left (by omega))]
theorem nw_i {tx : Nat → Nat} {le a : Nat} (h : a ≤ le) : nwB tx le (nwB tx le a) = nwB tx le a ∧ nwK tx le (nwB tx le a) = nwK tx le a := by
  have e : nwB tx le (nwB tx le a) = nwB tx le a := by
    obtain ⟨h1, h2, h3⟩ := sp_b (tx := tx) (le - a) a
    have e1 : nwB tx le a = spF tx (le - a) a := rfl
    rw [← e1] at h1 h2 h3
    show spF tx (le - nwB tx le a) (nwB tx le a) = nwB tx le a
    refine sp_i _ _ ?_
    by_cases c : nwB tx le a < le
    · exact Or.inr (h3 (by omega))
    · exact Or.inl (by omega)
  refine ⟨e, ?_⟩
  show decide (nwB tx le (nwB tx le a) < le ∧ tx (nwB tx le (nwB tx le a)) ≠ 35) = decide (nwB tx le a < le ∧ tx (nwB tx le a) ≠ 35)
  rw [e]
theorem nf_opt {fu i : Nat} {A : mwM} {L : mwL} (h : ¬ A 1 12 = 0) : DX8_optional fu i A L = some (0, A, L) := by
  unfold DX8_optional
  rw [if_neg h]
/-- an optional word and then the end -/
theorem st_optEnd {fu n le a i : Nat} {a1 : Int64} {W : List Nat} {A M : mwM} {Lc Lm : mwL} {tx : Nat → Nat} (hfu : 6100 ≤ fu) (h : Ld A M n tx le a) (hW : okW W a1 0 = true) (hc : chB i 0 W = true) (hl : W.length = sln i) (hl2 : sln i ≤ 100) : ∃ (t : Bool) (A1 M1 : mwM), DX8_optional fu i A Lc = some (bI t, A1, Lc) ∧ DX19_takes fu a1 M Lm = some (bI t, M1, Lm) ∧ fW A A1 ∧ fR M M1 ∧ ∀ M2, (∀ x y, (x = 732 ∧ (y = 2 ∨ y = 6 ∨ y = 7)) ∨ x = 733 → M2 x y = M1 x y) → ∃ A3 M3, fW A1 A3 ∧ fR M2 M3 ∧ ((DX8_endLine fu A1 Lc = some (A3, Lc) ∧ DX19_end fu M2 Lm = some (1, M3, Lm) ∧ ∃ a3, a ≤ a3 ∧ Ld A3 M3 n tx le a3) ∨ (DX8_endLine fu A1 Lc = some (A3, Lc) ∧ DX19_end fu M2 Lm = some (0, M3, Lm) ∧ Fx A3 M3)) := by
  obtain ⟨A1, M1, f1, f2, hr⟩ := st_opt (fu := fu) (Lc := Lc) (Lm := Lm) hfu h hW hc hl hl2
  obtain ⟨_, _, _, _, hle, _, _, ha, _⟩ := id h
  have hn := h.1.2.1
  obtain ⟨b1, b2, b3, b4, b5, b6, b7, _⟩ := nw_b (tx := tx) ha
  rcases hr with ⟨hk, e1, e2, hL, hH⟩ | ⟨hk, e1, e2, hL, m6, hT, m7⟩ | ⟨hk, e1, e2, w12, w13, m6, hT, m7⟩
  · refine ⟨true, A1, M1, e1, e2, f1, f2, fun M2 h2 => ?_⟩
    obtain ⟨A3, M3, g1, g2, hz⟩ := st_eol (fu := fu) (Lc := Lc) (Lm := Lm) hfu (Ld_n hL h2)
    obtain ⟨c1, c2, _⟩ := nw_b (tx := tx) (show nwE tx le a ≤ le from b4)
    rcases hz with ⟨z1, z2, z3, z4⟩ | ⟨z2, z3, z4⟩
    · exact ⟨A3, M3, g1, g2, Or.inl ⟨z2, z3, _, by omega, z4⟩⟩
    · exact ⟨A3, M3, g1, g2, Or.inr ⟨z2, z3, z4⟩⟩
  · refine ⟨false, A1, M1, e1, e2, f1, f2, fun M2 h2 => ?_⟩
    obtain ⟨l1, l2, l3, l4, l5, l6, l7, l8, l9⟩ := hL
    obtain ⟨i1, i2⟩ := nw_i (tx := tx) ha
    obtain ⟨A3, q1, q2, q3, q4⟩ := c_next (fu := fu) (L := Lc) hfu l1 l6 l3 l8 l5
    obtain ⟨M3, p1, p2, p3, p4⟩ := m_next (fu := fu) (L := Lm) hfu (TxM_f hT (fun x y u => h2 x y (by omega))) (show M2 732 6 = sI a by rw [h2 _ _ (by omega)]; exact m6) (show M2 732 7 = sI le by rw [h2 _ _ (by omega)]; exact m7) ha hle
    obtain ⟨r1, r2, r3⟩ := q3 (by rw [i2]; exact hk)
    rw [i1] at r1
    refine ⟨A3, M3, fun x y u => q4 x y (by omega), fun x y u => p4 x y (by omega), Or.inl ⟨?_, ?_, nwB tx le a, by omega, TxC_f l1 (fun x y u => q4 x y (by omega)), TxM_f hT (fun x y u => by rw [p4 x y (by omega), h2 x y (by omega)]), by rw [q4 _ _ (by omega)]; exact l3, by rw [p4 _ _ (by omega), h2 _ _ (by omega)]; exact m7, hle, r1, p3 hk, b2, by rw [q4 _ _ (by omega)]; exact l9⟩⟩
    · unfold DX8_endLine fX8_endLine_b28
      rw [if_pos l9, q1, mb2_s, r3, if_pos (show sI 0 ≤ 0 by decide)]
    · unfold DX19_end fX19_end_b19 fX19_end_b24
      rw [p1, mb3_s, hk, bI_f, if_pos (show (0 : Int32) = 0 from rfl)]
      rfl
  · refine ⟨false, A1, M1, e1, e2, f1, f2, fun M2 h2 => ?_⟩
    obtain ⟨M3, p1, p2, p3, p4⟩ := m_next (fu := fu) (L := Lm) hfu (TxM_f hT (fun x y u => h2 x y (by omega))) (show M2 732 6 = sI a by rw [h2 _ _ (by omega)]; exact m6) (show M2 732 7 = sI le by rw [h2 _ _ (by omega)]; exact m7) ha hle
    obtain ⟨u1, u2, u3⟩ := p2 hk
    refine ⟨A1, mset (mset M3 732 11 2) 732 12 (sI (nwB tx le a)), fun _ _ _ => rfl, fun x y u => by rw [mset_n (by omega), mset_n (by omega), p4 x y (by omega)], Or.inr ⟨nf_end (by rw [w12]; decide), ?_, ⟨2, nwB tx le a, by omega, by omega, by omega, w12, by rw [mset_n (by omega), mset_s]; rfl, w13, mset_s⟩⟩⟩
    unfold DX19_end fX19_end_b19 fX19_end_b24
    rw [p1, mb3_s, hk, bI_t, if_neg (show ¬ (1 : Int32) = 0 by decide), m_fail, mb3_s, if_pos (show (0 : Int32) = 0 from rfl), u2]
    rfl
theorem ok_time : okW [116, 105, 109, 101] 1701669236 0 = true := by decide +kernel
theorem ok_top : okW [116, 111, 112] 7368564 0 = true := by decide +kernel
theorem ok_more : okW [109, 111, 114, 101] 1701998445 0 = true := by decide +kernel
theorem ok_turned : okW [116, 117, 114, 110, 101, 100] 110386807469428 0 = true := by decide +kernel
theorem ok_if : okW [105, 102] 26217 0 = true := by decide +kernel
theorem nf_event {fu : Nat} {a1 : Int32} {A : mwM} {L : mwL} (h : ¬ A 1 12 = 0) : DX8_eventOrTime fu a1 A L = some (0, A, L) := by
  unfold DX8_eventOrTime
  rw [nf_fetch h, mb3_s, if_pos rfl]
theorem nf_parent {fu : Nat} {a1 : Int32} {A : mwM} {L : mwL} (h : ¬ A 1 12 = 0) : DX8_parentState fu a1 A L = some (0, A, L) := by
  unfold DX8_parentState fX8_parentState_b17
  rw [nf_fetch h, mb3_s, if_pos rfl]
/-- an event, or the time -/
theorem st_event {fu n le a f : Nat} {A M : mwM} {Lc Lm : mwL} {tx : Nat → Nat} (K : Int32 → mwM → mwL → Option (Int32 × mwM × mwL)) (hfu : 6100 ≤ fu) (h : Ld A M n tx le a) (hf : f ≤ 200) : ∃ A' M', fW A A' ∧ fRn M M' ∧ ((∃ ev, (ev < 100 ∨ ev = 1000 + f) ∧ nwK tx le a = true ∧ DX8_eventOrTime fu (sI f) A Lc = some (sI ev, A', Lc) ∧ mb3 (DX19_takes fu 1701669236 M Lm) (fun r9 M7 L8 => (if r9 = 0 then mb3 (DX19_number fu 0 99 M7 L8) (fun r13 M11 L12 => (if r13 = 0 then some (0, M11, L12) else mlet (M11 732 13) (fun x15 => K x15 M11 L12))) else K (sI (1000 + f)) M7 L8)) = K (sI ev) M' Lm ∧ Ld A' M' n tx le (nwE tx le a)) ∨ (DX8_eventOrTime fu (sI f) A Lc = some (0, A', Lc) ∧ mb3 (DX19_takes fu 1701669236 M Lm) (fun r9 M7 L8 => (if r9 = 0 then mb3 (DX19_number fu 0 99 M7 L8) (fun r13 M11 L12 => (if r13 = 0 then some (0, M11, L12) else mlet (M11 732 13) (fun x15 => K x15 M11 L12))) else K (sI (1000 + f)) M7 L8)) = some (0, M', Lm) ∧ Fx A' M')) := by
  obtain ⟨_, hTM, _, h7, hle, _, h6, ha, _⟩ := id h
  have hn := h.1.2.1
  obtain ⟨b1, b2, b3, b4, b5, b6, b7, _⟩ := nw_b (tx := tx) ha
  obtain ⟨M1, m1, m2⟩ := m_takes (fu := fu) (L := Lm) hfu hTM h6 h7 ha hle ok_time
  obtain ⟨A1, Mx, g1, g2, hr⟩ := st_must (fu := fu) (Lc := Lc) (Lm := Lm) hfu h
  by_cases cT : nwK tx le a = true ∧ isW tx (nwB tx le a) (nwE tx le a - nwB tx le a) [116, 105, 109, 101] = true
  · rw [if_pos cT] at m2
    rcases hr with ⟨hk, e1, e2, hL, hH⟩ | ⟨e1, e2, hX⟩
    · obtain ⟨l1, l2, l3, l4, l5, l6, l7, l8, l9⟩ := id hL
      obtain ⟨w8, w9, m9, m10, hlt⟩ := id hH
      refine ⟨A1, M1, g1, fun x y u => m1 x y (by omega), Or.inl ⟨1000 + f, Or.inr rfl, hk, ?_, ?_, l1, TxM_f hTM (fun x y u => m1 x y (by omega)), l3, by rw [m1 _ _ (by omega)]; exact h7, hle, l6, m2.2.1, b4, l9⟩⟩
      · unfold DX8_eventOrTime fX8_eventOrTime_b34
        rw [e1, mb3_s, if_neg (show ¬ (1 : Int32) = 0 by decide), c_isWord (by omega) l1 w8 w9 (by omega) rfl (by decide) ch_time, mb3_s, cT.2, bI_t, if_neg (show ¬ (1 : Int32) = 0 by decide), show (1000 : Int32) + sI f = sI (1000 + f) from sI_lad]
      · rw [m2.1, mb3_s, if_neg (show ¬ (1 : Int32) = 0 by decide)]
    · exfalso
      have := Fx_n hX
      obtain ⟨A9, M9, k1, k2, k3⟩ := st_must (fu := fu) (Lc := Lc) (Lm := Lm) hfu h
      have e3 : DX8_nextWord fu A Lc = DX8_nextWord fu A Lc := rfl
      obtain ⟨A8, c1, c2, c3, c4⟩ := c_next (fu := fu) (L := Lc) hfu h.1 h.2.2.2.2.2.1 h.2.2.1 ha hle
      unfold DX8_fetchWord fX8_fetchWord_b29 fX8_fetchWord_b41 at e1
      obtain ⟨q1, q2, q3⟩ := c2 cT.1
      have hlt := b5 cT.1
      rw [if_pos h.2.2.2.2.2.2.2.2, c1, mb2_s, q3, if_neg (show ¬ sI (nwE tx le a - nwB tx le a) = 0 by rw [show (0 : Int32) = sI 0 from rfl, sI_eq (by omega) (by omega)]; omega), if_neg (show ¬ sI (nwE tx le a - nwB tx le a) ≤ 0 by rw [show (0 : Int32) = sI 0 from rfl, sI_le (by omega) (by omega)]; omega)] at e1
      have := Option.some.inj e1
      have := congrArg Prod.fst this
      dsimp only at this
      exact absurd this (by decide)
  · rw [if_neg cT] at m2
    have hL1 := Ld_m h m1 m2.2
    obtain ⟨A2, M2, f1, f2, hz⟩ := st_number (fu := fu) (a1 := 0) (a2 := 99) (Lc := Lc) (Lm := Lm) hfu hL1
    rw [m2.1, mb3_s, if_pos (show (0 : Int32) = 0 from rfl)]
    have fM : fRn M M2 := fun x y u => by rw [f2 x y u, m1 x y (by omega)]
    -- the class reads a number as well
    have eq : nwK tx le a = true → DX8_eventOrTime fu (sI f) A Lc = DX8_number fu 0 99 A Lc := by
      intro hk
      rcases hr with ⟨hk, e1, e2, hL, hH⟩ | ⟨e1, e2, hX⟩
      · obtain ⟨l1, l2, l3, l4, l5, l6, l7, l8, l9⟩ := id hL
        obtain ⟨w8, w9, m9, m10, hlt⟩ := id hH
        have hi : isW tx (nwB tx le a) (nwE tx le a - nwB tx le a) [116, 105, 109, 101] = false := by
          cases hh : isW tx (nwB tx le a) (nwE tx le a - nwB tx le a) [116, 105, 109, 101] with
          | true => exact absurd ⟨hk, hh⟩ cT
          | false => rfl
        unfold DX8_eventOrTime DX8_number fX8_eventOrTime_b34 fX8_number_b17
        rw [e1, mb3_s, mb3_s, if_neg (show ¬ (1 : Int32) = 0 by decide), if_neg (show ¬ (1 : Int32) = 0 by decide), c_isWord (by omega) l1 w8 w9 (by omega) rfl (by decide) ch_time, mb3_s, hi, bI_f, if_pos (show (0 : Int32) = 0 from rfl)]
      · unfold DX8_eventOrTime DX8_number fX8_number_b17
        rw [e1, mb3_s, mb3_s, if_pos (show (0 : Int32) = 0 from rfl), if_pos (show (0 : Int32) = 0 from rfl)]
    have eq2 : nwK tx le a = false → DX8_eventOrTime fu (sI f) A Lc = DX8_number fu 0 99 A Lc := by
      intro hk
      rcases hr with ⟨hk', _⟩ | ⟨e1, e2, hX⟩
      · rw [hk] at hk'
        exact absurd hk' (by decide)
      · unfold DX8_eventOrTime DX8_number fX8_number_b17
        rw [e1, mb3_s, mb3_s, if_pos (show (0 : Int32) = 0 from rfl), if_pos (show (0 : Int32) = 0 from rfl)]
    have eq3 : DX8_eventOrTime fu (sI f) A Lc = DX8_number fu 0 99 A Lc := by
      cases hk : nwK tx le a with
      | true => exact eq hk
      | false => exact eq2 hk
    rw [eq3]
    rcases hz with ⟨hk, hb, hlo, hhi, e1, e2, h13, hL, hH⟩ | ⟨e1, e2, hX⟩
    · obtain ⟨v, v1, v2, v3⟩ := nu_nat (lo := 0) (hi := 99) hb hlo hhi (by omega) (by omega)
      rw [e2, mb3_s, if_neg (show ¬ (1 : Int32) = 0 by decide), mlet_e, h13, v1]
      rw [v1] at e1
      exact ⟨A2, M2, f1, fM, Or.inl ⟨v, Or.inl (by omega), hk, e1, rfl, hL⟩⟩
    · rw [e2, mb3_s, if_pos (show (0 : Int32) = 0 from rfl)]
      exact ⟨A2, M2, f1, fM, Or.inr ⟨e1, rfl, hX⟩⟩
/-- a word must come -/
theorem st_mustF {fu n le a : Nat} {A M : mwM} {Lc Lm : mwL} {tx : Nat → Nat} (hfu : 6100 ≤ fu) (h : Ld A M n tx le a) : ∃ A' M', fW A A' ∧ fR M M' ∧ ((nwK tx le a = true ∧ DX8_fetchWord fu A Lc = some (1, A', Lc) ∧ DX19_must fu M Lm = some (1, M', Lm) ∧ Ld A' M' n tx le (nwE tx le a) ∧ Hw A' M' (nwB tx le a) (nwE tx le a)) ∨ (nwK tx le a = false ∧ DX8_fetchWord fu A Lc = some (0, A', Lc) ∧ DX19_must fu M Lm = some (0, M', Lm) ∧ Fx A' M')) := by
  obtain ⟨hC, hM, h6, h7, hle, h5, h6', ha, h12⟩ := h
  have hn := hC.2.1
  obtain ⟨A1, e1, e2, e3, e4⟩ := c_next (fu := fu) (L := Lc) hfu hC h5 h6 ha hle
  obtain ⟨M1, m1, m2, m3, m4⟩ := m_next (fu := fu) (L := Lm) hfu hM h6' h7 ha hle
  obtain ⟨b1, b2, b3, b4, b5, b6, b7, _⟩ := nw_b (tx := tx) ha
  have k12 : A1 1 12 = 0 := by rw [e4 _ _ (by omega)]; exact h12
  unfold DX8_fetchWord DX19_must fX8_fetchWord_b29 fX8_fetchWord_b41 fX19_must_b19 fX19_must_b24
  rw [if_pos h12, e1, mb2_s, m1, mb3_s]
  cases hk : nwK tx le a with
  | true =>
    obtain ⟨q1, q2, q3⟩ := e2 hk
    obtain ⟨p1, p2, p3⟩ := m2 hk
    have hlt := b5 hk
    refine ⟨A1, M1, fun x y u => e4 x y (by omega), fun x y u => m4 x y (by omega), Or.inl ⟨rfl, ?_, ?_, ⟨TxC_f hC (fun x y u => e4 x y (by omega)), TxM_f hM (fun x y u => m4 x y (by omega)), by rw [e4 _ _ (by omega)]; exact h6, by rw [m4 _ _ (by omega)]; exact h7, hle, q1, p1, b4, k12⟩, ⟨q2, q3, p2, p3, hlt⟩⟩⟩
    · rw [q3, if_neg (show ¬ sI (nwE tx le a - nwB tx le a) = 0 by rw [show (0 : Int32) = sI 0 from rfl, sI_eq (by omega) (by omega)]; omega), if_neg (show ¬ sI (nwE tx le a - nwB tx le a) ≤ 0 by rw [show (0 : Int32) = sI 0 from rfl, sI_le (by omega) (by omega)]; omega)]
      rfl
    · rw [bI_t, if_neg (by decide)]
      rfl
  | false =>
    obtain ⟨q1, q2, q3⟩ := e3 hk
    have p1 := m3 hk
    refine ⟨mset (mset A1 1 12 (sI 2)) 1 13 (sI le), mset (mset M1 732 11 (sI 2)) 732 12 (sI le), fun x y u => by rw [mset_n (by omega), mset_n (by omega), e4 x y (by omega)], fun x y u => by rw [mset_n (by omega), mset_n (by omega), m4 x y (by omega)], Or.inr ⟨rfl, ?_, ?_, Fx_i (by omega) (by omega) (by omega)⟩⟩
    · rw [q3, if_pos (show sI 0 = 0 from rfl), c_fail k12, mb2_s, q2, mset_n (show ¬ (1 = 1 ∧ 9 = 13) by omega), mset_n (show ¬ (1 = 1 ∧ 9 = 12) by omega), q3, if_pos (show sI 0 ≤ 0 by decide)]
      rfl
    · rw [bI_f, if_pos rfl, m_fail, mb3_s, if_pos rfl, m4 _ _ (by omega), h7]
      rfl
/-- the parent of a state -/
theorem st_parent {fu n le a x X : Nat} {A M : mwM} {Lc Lm : mwL} {tx : Nat → Nat} {nl : List Nm} (K : Int32 → mwM → mwL → Option (Int32 × mwM × mwL)) (hfu : 6100 ≤ fu) (h : Ld A M n tx le a) (hN : NaR A M n X nl) (hx : x < X) : ∃ A' M', fW A A' ∧ fR M M' ∧ ((∃ v, v ≤ (nsL (1 + 2 * x) nl).length ∧ nwK tx le a = true ∧ DX8_parentState fu (sI x) A Lc = some (sI v, A', Lc) ∧ mb3 (DX19_takes fu 7368564 M Lm) (fun r9 M7 L8 => (if r9 = 0 then mb3 (DX19_state fu (sI x) M7 L8) (fun r13 M11 L12 => K r13 M11 L12) else K 0 M7 L8)) = K (sI v) M' Lm ∧ Ld A' M' n tx le (nwE tx le a)) ∨ (DX8_parentState fu (sI x) A Lc = some (0, A', Lc) ∧ mb3 (DX19_takes fu 7368564 M Lm) (fun r9 M7 L8 => (if r9 = 0 then mb3 (DX19_state fu (sI x) M7 L8) (fun r13 M11 L12 => K r13 M11 L12) else K 0 M7 L8)) = K (-1) M' Lm ∧ Fx A' M')) := by
  obtain ⟨_, hTM, _, h7, hle, _, h6, ha, _⟩ := id h
  have hn := h.1.2.1
  obtain ⟨b1, b2, b3, b4, b5, b6, b7, _⟩ := nw_b (tx := tx) ha
  obtain ⟨M1, m1, m2⟩ := m_takes (fu := fu) (L := Lm) hfu hTM h6 h7 ha hle ok_top
  by_cases cT : nwK tx le a = true ∧ isW tx (nwB tx le a) (nwE tx le a - nwB tx le a) [116, 111, 112] = true
  · rw [if_pos cT] at m2
    obtain ⟨A1, Mx, g1, g2, hr⟩ := st_mustF (fu := fu) (Lc := Lc) (Lm := Lm) hfu h
    rcases hr with ⟨hk, e1, e2, hL, hH⟩ | ⟨hk, e1, e2, hX⟩
    · obtain ⟨l1, l2, l3, l4, l5, l6, l7, l8, l9⟩ := id hL
      obtain ⟨w8, w9, m9, m10, hlt⟩ := id hH
      refine ⟨A1, M1, g1, m1, Or.inl ⟨0, by omega, hk, ?_, ?_, l1, TxM_f hTM (fun x y u => m1 x y (by omega)), l3, by rw [m1 _ _ (by omega)]; exact h7, hle, l6, m2.2.1, b4, l9⟩⟩
      · unfold DX8_parentState fX8_parentState_b17
        rw [e1, mb3_s, if_neg (show ¬ (1 : Int32) = 0 by decide), c_isWord (by omega) l1 w8 w9 (by omega) rfl (by decide) ch_top, mb3_s, cT.2, bI_t, if_neg (show ¬ (1 : Int32) = 0 by decide)]
        rfl
      · rw [m2.1, mb3_s, if_neg (show ¬ (1 : Int32) = 0 by decide)]
        rfl
    · rw [hk] at cT
      exact absurd cT.1 (by decide)
  · rw [if_neg cT] at m2
    have hL1 := Ld_m h m1 m2.2
    have hN1 : NaR A M1 n X nl := NaR_f hN (fun _ _ _ => rfl) (fun x y u => m1 x y (by omega))
    rw [m2.1, mb3_s, if_pos (show (0 : Int32) = 0 from rfl)]
    obtain ⟨A2, M2, f1, f2, hr⟩ := st_mustF (fu := fu) (Lc := Lc) (Lm := Lm) hfu hL1
    have fM : fR M M2 := fun x y u => by rw [f2 x y u, m1 x y u]
    have hN2 : NaR A2 M2 n X nl := NaR_f hN1 (fun x y u => f1 x y (by omega)) (fun x y u => f2 x y (by omega))
    unfold DX8_parentState DX19_state fX8_parentState_b17
    rcases hr with ⟨hk, e1, e2, hL, hH⟩ | ⟨hk, e1, e2, hX⟩
    · obtain ⟨l1, l2, l3, l4, l5, l6, l7, l8, l9⟩ := id hL
      obtain ⟨w8, w9, m9, m10, hlt⟩ := id hH
      obtain ⟨nC, nO, nM, nX, nS⟩ := hN2
      have hi : isW tx (nwB tx le a) (nwE tx le a - nwB tx le a) [116, 111, 112] = false := by
        cases hh : isW tx (nwB tx le a) (nwE tx le a - nwB tx le a) [116, 111, 112] with
        | true => exact absurd ⟨hk, hh⟩ cT
        | false => rfl
      obtain ⟨r, x1, x2⟩ := c_findName (fu := fu) (σ := 1 + 2 * x) (L := Lc) hfu l1 w8 w9 (by omega) nC nO (by omega)
      obtain ⟨r', y1, y2⟩ := m_findState (fu := fu) (L := Lm) hfu l2 m9 m10 hlt (by omega) (show x < 12 by omega) (nS x hx).1 (NmO_s nO)
      rw [e1, mb3_s, if_neg (show ¬ (1 : Int32) = 0 by decide), c_isWord (by omega) l1 w8 w9 (by omega) rfl (by decide) ch_top, mb3_s, hi, bI_f, if_pos (show (0 : Int32) = 0 from rfl)]
      unfold DX8_statesOf
      rw [mb3_s, show (1 : Int32) + 2 * sI x = sI (1 + 2 * x) by rw [show (2 : Int32) * sI x = sI (2 * x) from sI_lml]; exact sI_lad, x1, mb3_s, e2, mb3_s, if_neg (show ¬ (1 : Int32) = 0 by decide), y1, mb3_s]
      rcases y2 with ⟨y2, y3⟩ | ⟨j, hj, y2, y3⟩
      · rcases x2 with ⟨x2, x3⟩ | ⟨i, hi, x2, x3⟩
        · rw [x2, if_neg (by decide), c_fail l9, mb2_s, w8, y2, if_neg (by decide), m_fail, mb3_s, if_pos (show (0 : Int32) = 0 from rfl), m9]
          unfold fX19_state_b36
          rw [mb3_s]
          refine ⟨_, _, ?_, ?_, Or.inr ⟨rfl, rfl, Fx_i (k := 4) (w := nwB tx le a) (M := M2) (by omega) (by omega) (by omega)⟩⟩
          · intro p y u
            rw [mset_n (by omega), mset_n (by omega), f1 p y u]
          · intro p y u
            rw [mset_n (by omega), mset_n (by omega), fM p y u]
        · rw [y3] at x3
          exact absurd x3 (by simp)
      · rcases x2 with ⟨x2, x3⟩ | ⟨i, hi, x2, x3⟩
        · rw [y3] at x3
          exact absurd x3 (by simp)
        · obtain ⟨a1, a2, a3, a4, a5⟩ := nC.2.2 i hi
          have hl := nC.2.1
          obtain ⟨_, hl2, z⟩ := (nS x hx).1
          obtain ⟨c1, c2, c3, c4⟩ := z j hj
          rw [y3] at x3
          have ee := Option.some.inj x3
          rw [x2, if_pos (show (0 : Int32) ≤ sI i by rw [show (0 : Int32) = sI 0 from rfl, sI_le (by omega) (by omega)]; omega), mck_s (by omega) (by omega), sI_nn (by omega), a5, ← ee, c4, y2, if_pos (show (0 : Int32) < sI (j + 1) by rw [show (0 : Int32) = sI 0 from rfl, sI_lt (by omega) (by omega)]; omega)]
          unfold fX19_state_b31 fX19_state_b36
          rw [mb3_s]
          exact ⟨A2, M2, f1, fM, Or.inl ⟨j + 1, by omega, hk, rfl, rfl, hL⟩⟩
    · rw [e1, mb3_s, if_pos (show (0 : Int32) = 0 from rfl), e2, mb3_s, if_pos (show (0 : Int32) = 0 from rfl), mb3_s]
      exact ⟨A2, M2, f1, fM, Or.inr ⟨rfl, rfl, hX⟩⟩
