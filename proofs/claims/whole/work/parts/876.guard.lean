/-! READING: a guard, and the end of the line -/
noncomputable def gdC (fu : Nat) (x : Int32) (Kc : Int32 → mwM → mwL → Option (mwM × mwL)) (A : mwM) (L : mwL) : Option (mwM × mwL) :=
  mb3 (DX8_optional fu 2 A L) (fun r30 M28 L29 => (if r30 = 0 then mb2 (DX8_endLine fu M28 L29) (fun M1 L2 => Kc 0 M1 L2) else mb3 (DX8_dataOf fu x M28 L29) (fun r34 M32 L33 => mb3 (DX8_toldName fu r34 5 M32 L33) (fun r37 M35 L36 => mb3 (DX8_oneOf fu 3 M35 L36) (fun r40 M38 L39 => mlet (r40 + 1) (fun x41 => mb3 (DX8_otherOperand fu x M38 L39) (fun r44 M42 L43 => mlet ((x41 + (8 * r37)) + r44) (fun x45 => mb2 (DX8_endLine fu M42 L43) (fun M1 L2 => Kc x45 M1 L2)))))))))
noncomputable def gdM (fu : Nat) (x : Int32) (G : Int32 → mwM → mwL → Option (Int32 × mwM × mwL)) (M : mwM) (L : mwL) : Option (Int32 × mwM × mwL) :=
  mb3 (DX19_guard fu x M L) (fun r18 M16 L17 => (if r18 < 0 then some (0, M16, L17) else mb3 (DX19_end fu M16 L17) (fun r22 M20 L21 => (if r22 = 0 then some (0, M20, L21) else G r18 M20 L21))))
theorem c_opt {fu n le a i : Nat} {W : List Nat} {A : mwM} {L : mwL} {tx : Nat → Nat} (hfu : 6100 ≤ fu) (hC : TxC A n tx) (h5 : A 1 5 = sI a) (h6 : A 1 6 = sI le) (ha : a ≤ le) (hle : le ≤ n) (h12 : A 1 12 = 0) (hc : chB i 0 W = true) (hl : W.length = sln i) (hl2 : sln i ≤ 100) : ∃ A', fW A A' ∧ A' 1 12 = 0 ∧ (nwK tx le a = false → DX8_optional fu i A L = some (0, A', L) ∧ A' 1 5 = sI (nwB tx le a)) ∧ (nwK tx le a = true → A' 1 5 = sI (nwE tx le a) ∧ A' 1 8 = sI (nwB tx le a) ∧ A' 1 9 = sI (nwE tx le a - nwB tx le a)) ∧ (nwK tx le a = true → isW tx (nwB tx le a) (nwE tx le a - nwB tx le a) W = true → DX8_optional fu i A L = some (1, A', L)) ∧ (nwK tx le a = true → isW tx (nwB tx le a) (nwE tx le a - nwB tx le a) W = false → DX8_optional fu i A L = some (0, flA A' (sI 2) (sI (nwB tx le a)), L)) := by
  have hn := hC.2.1
  obtain ⟨A1, e1, e2, e3, e4⟩ := c_next (fu := fu) (L := L) hfu hC h5 h6 ha hle
  obtain ⟨b1, b2, b3, b4, b5, b6, b7, _⟩ := nw_b (tx := tx) ha
  have k12 : A1 1 12 = 0 := by rw [e4 _ _ (by omega)]; exact h12
  have hC1 : TxC A1 n tx := TxC_f hC (fun x y u => e4 x y (by omega))
  unfold DX8_optional
  rw [if_pos h12, e1, mb2_s]
  refine ⟨A1, fun x y u => e4 x y (by omega), k12, fun hk => ?_, fun hk => e2 hk, fun hk hi => ?_, fun hk hi => ?_⟩
  · obtain ⟨q1, q2, q3⟩ := e3 hk
    refine ⟨?_, q1⟩
    unfold fX8_optional_b37 fX8_optional_b55 fX8_optional_b56
    rw [q3, if_pos (show sI 0 ≤ 0 by decide), if_pos (show sI 0 ≤ 0 by decide)]
    rfl
  · obtain ⟨q1, q2, q3⟩ := e2 hk
    have hlt := b5 hk
    have nz : ¬ sI (nwE tx le a - nwB tx le a) ≤ 0 := by rw [show (0 : Int32) = sI 0 from rfl, sI_le (by omega) (by omega)]; omega
    rw [q3, if_neg nz, c_isWord (by omega) hC1 q2 q3 (by omega) hl hl2 hc, mb3_s, hi]
    unfold fX8_optional_b37 fX8_optional_b55 fX8_optional_b56
    rw [bI_t, if_neg (show ¬ (1 : Int32) = 0 by decide), q3, if_neg nz, if_pos k12]
    rfl
  · obtain ⟨q1, q2, q3⟩ := e2 hk
    have hlt := b5 hk
    have nz : ¬ sI (nwE tx le a - nwB tx le a) ≤ 0 := by rw [show (0 : Int32) = sI 0 from rfl, sI_le (by omega) (by omega)]; omega
    rw [q3, if_neg nz, c_isWord (by omega) hC1 q2 q3 (by omega) hl hl2 hc, mb3_s, hi]
    unfold fX8_optional_b37 fX8_optional_b55 fX8_optional_b56
    rw [bI_f, if_pos (show (0 : Int32) = 0 from rfl), c_fail k12, mb2_s, q2, mset_n (show ¬ (1 = 1 ∧ 9 = 13) by omega), mset_n (show ¬ (1 = 1 ∧ 9 = 12) by omega), q3, if_neg nz, if_neg (by
      rw [mset_n (by omega), mset_s]
      decide)]
    rfl
/-- both at the end of a line -/
theorem st_fin {fu n le a : Nat} {A A0 M M0 : mwM} {Lc Lm : mwL} {tx : Nat → Nat} {g : Nat} (Kc : Int32 → mwM → mwL → Option (mwM × mwL)) (G : Int32 → mwM → mwL → Option (Int32 × mwM × mwL)) (hfu : 6100 ≤ fu) (h : Ld A M n tx le a) (fa : fW A0 A) (fm : fRn M0 M) (hg : g < 2000000000) : ∃ A' M', fW A0 A' ∧ fRn M0 M' ∧ ((∃ a', mb2 (DX8_endLine fu A Lc) (fun M1 L2 => Kc (sI g) M1 L2) = Kc (sI g) A' Lc ∧ (if sI g < 0 then some (0, M, Lm) else mb3 (DX19_end fu M Lm) (fun r22 M20 L21 => (if r22 = 0 then some (0, M20, L21) else G (sI g) M20 L21))) = G (sI g) M' Lm ∧ a ≤ a' ∧ Ld A' M' n tx le a') ∨ (mb2 (DX8_endLine fu A Lc) (fun M1 L2 => Kc (sI g) M1 L2) = Kc (sI g) A' Lc ∧ (if sI g < 0 then some (0, M, Lm) else mb3 (DX19_end fu M Lm) (fun r22 M20 L21 => (if r22 = 0 then some (0, M20, L21) else G (sI g) M20 L21))) = some (0, M', Lm) ∧ Fx A' M')) := by
  obtain ⟨A1, M1, f1, f2, hr⟩ := st_eol (fu := fu) (Lc := Lc) (Lm := Lm) hfu h
  have ng : ¬ sI g < 0 := by rw [show (0 : Int32) = sI 0 from rfl, sI_lt hg (by omega)]; omega
  have ha := h.2.2.2.2.2.2.2.1
  have hb := (nw_b (tx := tx) ha).1
  rw [if_neg ng]
  refine ⟨A1, M1, fun x y u => by rw [f1 x y u, fa x y u], fun x y u => by rw [f2 x y (by omega), fm x y u], ?_⟩
  rcases hr with ⟨hk, e1, e2, hL⟩ | ⟨e1, e2, hX⟩
  · rw [e1, mb2_s, e2, mb3_s, if_neg (show ¬ (1 : Int32) = 0 by decide)]
    exact Or.inl ⟨_, rfl, rfl, hb, hL⟩
  · rw [e1, mb2_s, e2, mb3_s, if_pos (show (0 : Int32) = 0 from rfl)]
    exact Or.inr ⟨rfl, rfl, hX⟩
/-- where it has failed already -/
theorem nf_fin {fu : Nat} {A M M0 A0 : mwM} {Lc Lm : mwL} {g : Int32} (Kc : Int32 → mwM → mwL → Option (mwM × mwL)) (G : Int32 → mwM → mwL → Option (Int32 × mwM × mwL)) (hX : Fx A M) (fa : fW A0 A) (fm : fRn M0 M) : ∃ A' M', fW A0 A' ∧ fRn M0 M' ∧ mb2 (DX8_endLine fu A Lc) (fun M1 L2 => Kc g M1 L2) = Kc g A' Lc ∧ (if (-1 : Int32) < 0 then some (0, M, Lm) else mb3 (DX19_end fu M Lm) (fun r22 M20 L21 => (if r22 = 0 then some (0, M20, L21) else G (-1) M20 L21))) = some (0, M', Lm) ∧ Fx A' M' := by
  refine ⟨A, M, fa, fm, ?_, if_pos (by decide), hX⟩
  rw [nf_end (Fx_n hX), mb2_s]
theorem st_guard {fu n le a x X : Nat} {A M : mwM} {Lc Lm : mwL} {tx : Nat → Nat} {nl : List Nm} (Kc : Int32 → mwM → mwL → Option (mwM × mwL)) (G : Int32 → mwM → mwL → Option (Int32 × mwM × mwL)) (hfu : 6100 ≤ fu) (h : Ld A M n tx le a) (hN : NaR A M n X nl) (hx : x < X) : ∃ A' M', fW A A' ∧ fRn M M' ∧ ((∃ g a', g < 16384 ∧ (g = 0 ∨ (1 ≤ g % 8 ∧ g % 8 ≤ 6)) ∧ gdC fu (sI x) Kc A Lc = Kc (sI g) A' Lc ∧ gdM fu (sI x) G M Lm = G (sI g) M' Lm ∧ a ≤ a' ∧ Ld A' M' n tx le a') ∨ (∃ g, gdC fu (sI x) Kc A Lc = Kc g A' Lc ∧ gdM fu (sI x) G M Lm = some (0, M', Lm) ∧ Fx A' M')) := by
  obtain ⟨hT, hM, h6, h7, hle, h5, h6', ha, h12⟩ := id h
  have hn := hT.2.1
  obtain ⟨b1, b2, b3, b4, b5, b6, b7, _⟩ := nw_b (tx := tx) ha
  obtain ⟨A1, c1, c2, c3, c4, c5, c6⟩ := c_opt (fu := fu) (i := 2) (W := [105, 102]) (L := Lc) hfu hT h5 h6 ha hle h12 ch_if rfl (by decide)
  obtain ⟨M1, m1, m2, m3, m4⟩ := m_next (fu := fu) (L := Lm) hfu hM h6' h7 ha hle
  have hC1 : TxC A1 n tx := TxC_f hT (fun p y u => c1 p y (by omega))
  have hM1 : TxM M1 n tx := TxM_f hM (fun p y u => m4 p y (by omega))
  have q6 : A1 1 6 = sI le := by rw [c1 _ _ (by omega)]; exact h6
  have q7 : M1 732 7 = sI le := by rw [m4 _ _ (by omega)]; exact h7
  have fm1 : fRn M M1 := fun p y u => m4 p y (by omega)
  unfold gdC gdM DX19_guard
  rw [m1, mb3_s]
  cases hk : nwK tx le a with
  | false =>
    obtain ⟨k1, k2⟩ := c3 hk
    have hL : Ld A1 M1 n tx le (nwB tx le a) := ⟨hC1, hM1, q6, q7, hle, k2, m3 hk, b2, c2⟩
    rw [k1, mb3_s, if_pos (show (0 : Int32) = 0 from rfl), bI_f, if_pos (show (0 : Int32) = 0 from rfl), mb3_s]
    obtain ⟨A', M', g1, g2, hr⟩ := st_fin (g := 0) (Lc := Lc) (Lm := Lm) Kc G hfu hL c1 fm1 (by omega)
    refine ⟨A', M', g1, g2, ?_⟩
    rcases hr with ⟨a', r1, r2, r3, r4⟩ | ⟨r1, r2, r3⟩
    · exact Or.inl ⟨0, a', by omega, Or.inl rfl, r1, r2, by omega, r4⟩
    · exact Or.inr ⟨_, r1, r2, r3⟩
  | true =>
    obtain ⟨w5, w8, w9⟩ := c4 hk
    obtain ⟨m6, m9, m10⟩ := m2 hk
    have hlt := b5 hk
    rw [bI_t, if_neg (show ¬ (1 : Int32) = 0 by decide), m_is9 (by omega) hM1 m9 m10 hlt (by omega) ok_if, mb3_s]
    cases hi : isW tx (nwB tx le a) (nwE tx le a - nwB tx le a) [105, 102] with
    | false =>
      rw [c6 hk hi, mb3_s, if_pos (show (0 : Int32) = 0 from rfl), bI_f, if_pos (show (0 : Int32) = 0 from rfl), m_fail, mb3_s, if_pos (show (0 : Int32) = 0 from rfl), m9]
      unfold fX19_guard_b37
      rw [mb3_s]
      have hX : Fx (flA A1 (sI 2) (sI (nwB tx le a))) (flM M1 (sI 2) (sI (nwB tx le a))) := Fx_i (by omega) (by omega) (by omega)
      obtain ⟨A', M', g1, g2, r1, r2, r3⟩ := nf_fin (fu := fu) (Lc := Lc) (Lm := Lm) (g := 0) (A0 := A) (M0 := M) Kc G hX (fun p y u => by
        show mset (mset A1 1 12 (sI 2)) 1 13 (sI (nwB tx le a)) p y = _
        rw [mset_n (by omega), mset_n (by omega), c1 p y u]) (fun p y u => by
        show mset (mset M1 732 11 (sI 2)) 732 12 (sI (nwB tx le a)) p y = _
        rw [mset_n (by omega), mset_n (by omega), fm1 p y u])
      exact ⟨A', M', g1, g2, Or.inr ⟨_, r1, r2, r3⟩⟩
    | true =>
      have hL : Ld A1 M1 n tx le (nwE tx le a) := ⟨hC1, hM1, q6, q7, hle, w5, m6, b4, c2⟩
      have hN1 : NaR A1 M1 n X nl := NaR_f hN (fun p y u => c1 p y (by omega)) (fun p y u => m4 p y (by omega))
      have nX := hN.2.2.2.1
      rw [c5 hk hi, mb3_s, if_neg (show ¬ (1 : Int32) = 0 by decide), bI_t, if_neg (show ¬ (1 : Int32) = 0 by decide)]
      unfold DX8_dataOf
      rw [mb3_s, show (2 : Int32) + 2 * sI x = sI (2 + 2 * x) by rw [show (2 : Int32) * sI x = sI (2 * x) from sI_lml]; exact sI_lad]
      obtain ⟨A2, M2, f1, f2, hr⟩ := st_dat (fu := fu) (Lc := Lc) (Lm := Lm) hfu hL hN1 hx
      have a2 : fW A A2 := fun p y u => by rw [f1 p y u, c1 p y u]
      have m2' : fRn M M2 := fun p y u => by rw [f2 p y (by omega), fm1 p y u]
      rcases hr with ⟨d, hd, hk2, e1, e2, hL2, _⟩ | ⟨e1, e2, hX⟩
      · have hN2 : NaR A2 M2 n X nl := NaR_f hN1 (fun p y u => f1 p y (by omega)) (fun p y u => f2 p y (by omega))
        have hdl := (hN2.2.2.2.2 x hx).2.2.1
        have o2 := (nw_b (tx := tx) hL.2.2.2.2.2.2.2.1)
        have o2' := o2.2.2.2.2.1 hk2
        rw [e1, mb3_s, e2, mb3_s, if_neg (show ¬ sI d < 0 by rw [show (0 : Int32) = sI 0 from rfl, sI_lt (by omega) (by omega)]; omega)]
        unfold DX8_oneOf
        obtain ⟨A3, M3, f3, f4, hr3⟩ := st_must (fu := fu) (Lc := Lc) (Lm := Lm) hfu hL2
        have a3 : fW A A3 := fun p y u => by rw [f3 p y u, a2 p y u]
        have m3' : fRn M M3 := fun p y u => by rw [f4 p y (by omega), m2' p y u]
        rcases hr3 with ⟨hk3, e3, e4, hL3, hH3⟩ | ⟨e3, e4, hX⟩
        · obtain ⟨z8, z9, n9, n10, hlt3⟩ := id hH3
          obtain ⟨l1, l2, l3, l4, l5, l6, l7, l8, l9⟩ := id hL3
          have o3 := (nw_b (tx := tx) hL2.2.2.2.2.2.2.2.1)
          obtain ⟨r, x1, x2⟩ := m_op (fu := fu) (L := Lm) hfu l2 n9 n10 hlt3 (by omega)
          rw [e3, mb3_s, if_neg (show ¬ (1 : Int32) = 0 by decide), e4, mb3_s, if_neg (show ¬ (1 : Int32) = 0 by decide), c_indexIn wOps (by omega) l1 z8 z9 (by omega) (by decide) st_ops, mb3_s, x1, mb3_s]
          rcases x2 with ⟨y1, y2⟩ | ⟨j, hj, y1, y2⟩
          · rw [y1, y2, if_neg (show ¬ (0 : Int32) ≤ -1 by decide), if_neg (show ¬ (0 : Int32) ≤ -1 by decide), c_fail l9, mb2_s, mb3_s, mlet_e, z8, m_fail, mb3_s, if_pos (show (0 : Int32) = 0 from rfl), n9]
            have hX : Fx (mset (mset A3 1 12 1) 1 13 (sI (nwB tx le (nwE tx le (nwE tx le a))))) (mset (mset M3 732 11 1) 732 12 (sI (nwB tx le (nwE tx le (nwE tx le a))))) := Fx_i (k := 1) (by omega) (by omega) (by omega)
            unfold fX19_guard_b83
            rw [nf_oper (Fx_n hX), mb3_s, mlet_e, mb3_s]
            obtain ⟨A', M', g1, g2, r1, r2, r3⟩ := nf_fin (fu := fu) (Lc := Lc) (Lm := Lm) (g := 0 + 1 + 8 * sI d + 0) (A0 := A) (M0 := M) Kc G hX (fun p y u => by
              rw [mset_n (by omega), mset_n (by omega), a3 p y u]) (fun p y u => by
              rw [mset_n (by omega), mset_n (by omega), m3' p y u])
            exact ⟨A', M', g1, g2, Or.inr ⟨_, r1, r2, r3⟩⟩
          · have hN3 : NaR A3 M3 n X nl := NaR_f hN2 (fun p y u => f3 p y (by omega)) (fun p y u => f4 p y (by omega))
            rw [y1, y2, if_pos (show (0 : Int32) ≤ sI j by rw [show (0 : Int32) = sI 0 from rfl, sI_le (by omega) (by omega)]; omega), if_pos (show (0 : Int32) ≤ sI (j + 1) by rw [show (0 : Int32) = sI 0 from rfl, sI_le (by omega) (by omega)]; omega), mb3_s, mlet_e]
            obtain ⟨A4, M4, f5, f6, hr4⟩ := st_oper (fu := fu) (d := d) (j := j) (Lc := Lc) (Lm := Lm) hfu hL3 hN3 hx
            have a4 : fW A A4 := fun p y u => by rw [f5 p y u, a3 p y u]
            have m4' : fRn M M4 := fun p y u => by rw [f6 p y u, m3' p y u]
            rcases hr4 with ⟨o, ho1, ho2, hk4, e5, e6, hL4⟩ | ⟨zz, e5, e6, hX⟩
            · rw [e5, mb3_s, mlet_e, e6, mb3_s]
              have o4 := (nw_b (tx := tx) l8)
              rw [show sI j + 1 + 8 * sI d + sI o = sI (j + 1 + 8 * d + o) by rw [show (8 : Int32) * sI d = sI (8 * d) from sI_lml, sI_1, sI_add, sI_add]]
              obtain ⟨A', M', g1, g2, hr⟩ := st_fin (g := j + 1 + 8 * d + o) (Lc := Lc) (Lm := Lm) Kc G hfu hL4 a4 m4' (by omega)
              refine ⟨A', M', g1, g2, ?_⟩
              rcases hr with ⟨a', r1, r2, r3, r4⟩ | ⟨r1, r2, r3⟩
              · exact Or.inl ⟨_, a', by omega, Or.inr (by omega), r1, r2, by omega, r4⟩
              · exact Or.inr ⟨_, r1, r2, r3⟩
            · rw [e5, mb3_s, mlet_e, e6, mb3_s]
              obtain ⟨A', M', g1, g2, r1, r2, r3⟩ := nf_fin (fu := fu) (Lc := Lc) (Lm := Lm) (g := sI j + 1 + 8 * sI d + zz) (A0 := A) (M0 := M) Kc G hX a4 m4'
              exact ⟨A', M', g1, g2, Or.inr ⟨_, r1, r2, r3⟩⟩
        · rw [e3, mb3_s, if_pos (show (0 : Int32) = 0 from rfl), mb3_s, mlet_e, e4, mb3_s, if_pos (show (0 : Int32) = 0 from rfl), nf_oper (Fx_n hX), mb3_s, mlet_e]
          unfold fX19_guard_b55
          rw [mb3_s]
          obtain ⟨A', M', g1, g2, r1, r2, r3⟩ := nf_fin (fu := fu) (Lc := Lc) (Lm := Lm) (g := 0 + 1 + 8 * sI d + 0) (A0 := A) (M0 := M) Kc G hX a3 m3'
          exact ⟨A', M', g1, g2, Or.inr ⟨_, r1, r2, r3⟩⟩
      · rw [e1, mb3_s, e2, mb3_s, if_pos (show (-1 : Int32) < 0 by decide), nf_one (Fx_n hX), mb3_s, mlet_e, nf_oper (Fx_n hX), mb3_s, mlet_e]
        unfold fX19_guard_b55
        rw [mb3_s]
        obtain ⟨A', M', g1, g2, r1, r2, r3⟩ := nf_fin (fu := fu) (Lc := Lc) (Lm := Lm) (g := 0 + 1 + 8 * 0 + 0) (A0 := A) (M0 := M) Kc G hX a2 m2'
        exact ⟨A', M', g1, g2, Or.inr ⟨_, r1, r2, r3⟩⟩
