/-! READING: a new name must come -/
abbrev fWn (A A' : mwM) : Prop := ∀ x y, ¬ (x = 1 ∧ (y = 5 ∨ (8 ≤ y ∧ y ≤ 13))) → A' x y = A x y
abbrev flA (A : mwM) (k w : Int32) : mwM := mset (mset A 1 12 k) 1 13 w
theorem nf_new {fu : Nat} {a1 a2 a3 : Int32} {A : mwM} {L : mwL} (h : ¬ A 1 12 = 0) : DX8_newName fu a1 a2 a3 A L = some (A, L) := by
  unfold DX8_newName
  rw [if_neg h]
theorem c_newName {fu n le a σ : Nat} {a2 a3 : Int32} {A : mwM} {L : mwL} {tx : Nat → Nat} {nl : List Nm} (hfu : 6100 ≤ fu) (hT : TxC A n tx) (h5 : A 1 5 = sI a) (h6 : A 1 6 = sI le) (ha : a ≤ le) (hle : le ≤ n) (h12 : A 1 12 = 0) (hN : NmC A nl) (hO : NmO n nl) (hσ : σ < 100) : ∃ A1, fWn A A1 ∧ A1 1 12 = 0 ∧ (nwK tx le a = true → A1 1 5 = sI (nwE tx le a) ∧ A1 1 8 = sI (nwB tx le a) ∧ A1 1 9 = sI (nwE tx le a - nwB tx le a) ∧ A1 1 10 = sI (nwB tx le a) ∧ A1 1 11 = sI (nwE tx le a - nwB tx le a)) ∧
    (nwK tx le a = false → DX8_newName fu (sI σ) a2 a3 A L = some (flA A1 (sI 2) (sI le), L)) ∧
    (nwK tx le a = true → (nmB tx (nwB tx le a) (nwE tx le a - nwB tx le a) = false ∨ (σ ≠ 0 ∧ isW tx (nwB tx le a) (nwE tx le a - nwB tx le a) [116, 111, 112] = true)) → DX8_newName fu (sI σ) a2 a3 A L = some (flA A1 (sI 2) (sI (nwB tx le a)), L)) ∧
    (nwK tx le a = true → nmB tx (nwB tx le a) (nwE tx le a - nwB tx le a) = true → (σ = 0 ∨ isW tx (nwB tx le a) (nwE tx le a - nwB tx le a) [116, 111, 112] = false) → DX8_newName fu (sI σ) a2 a3 A L = match (nsL σ nl).find? (hitB tx (nwB tx le a) (nwE tx le a - nwB tx le a)) with
      | some _ => some (flA A1 (sI 3) (sI (nwB tx le a)), L)
      | none => if a2 < a3 then some (A1, L) else some (flA A1 (sI 6) (sI (nwB tx le a)), L)) := by
  have hn := hT.2.1
  obtain ⟨A0, e1, e2, e3, e4⟩ := c_next (fu := fu) (L := L) hfu hT h5 h6 ha hle
  obtain ⟨b1, b2, b3, b4, b5, b6, b7, _⟩ := nw_b (tx := tx) ha
  generalize hA1 : mset (mset A0 1 10 (A0 1 8)) 1 11 (A0 1 9) = A1
  have t1 : ∀ x y, ¬ (x = 1 ∧ (y = 10 ∨ y = 11)) → A1 x y = A0 x y := fun x y u => by rw [← hA1, mset_n (by omega), mset_n (by omega)]
  have t10 : A1 1 10 = A0 1 8 := by rw [← hA1, mset_n (by omega), mset_s]
  have t11 : A1 1 11 = A0 1 9 := by rw [← hA1, mset_s]
  have k12 : A1 1 12 = 0 := by rw [t1 _ _ (by omega), e4 _ _ (by omega)]; exact h12
  have hT1 : TxC A1 n tx := TxC_f hT (fun x y u => by rw [t1 x y (by omega), e4 x y (by omega)])
  have hN1 : NmC A1 nl := by
    obtain ⟨n1, n2, n3⟩ := hN
    refine ⟨by rw [t1 _ _ (by omega), e4 _ _ (by omega)]; exact n1, n2, fun i hi => ?_⟩
    rw [t1 _ _ (by omega), t1 _ _ (by omega), t1 _ _ (by omega), t1 _ _ (by omega), t1 _ _ (by omega), e4 _ _ (by omega), e4 _ _ (by omega), e4 _ _ (by omega), e4 _ _ (by omega), e4 _ _ (by omega)]
    exact n3 i hi
  have un : DX8_newName fu (sI σ) a2 a3 A L = mb3 (DX8_isName fu A1 L) (fun r19 M17 L18 => (if r19 = 0 then fX8_newName_b49 fu (sI σ) a2 a3 M17 L18 else (if sI σ = 0 then fX8_newName_b61 fu (sI σ) a2 a3 M17 L18 else mb3 (DX8_isWord fu 6 M17 L18) (fun r24 M22 L23 => (if r24 = 0 then fX8_newName_b61 fu (sI σ) a2 a3 M22 L23 else fX8_newName_b49 fu (sI σ) a2 a3 M22 L23))))) := by
    unfold DX8_newName
    rw [if_pos h12, e1, mb2_s, mlet_e, mlet_e, mset_n (show ¬ (1 = 1 ∧ 9 = 10) by omega), hA1]
  have bad : ∀ w : Nat, A1 1 8 = sI w → fX8_newName_b49 fu (sI σ) a2 a3 A1 L = some (flA A1 (sI 2) (sI w), L) := fun w hw => by
    unfold fX8_newName_b49 fX8_newName_b96
    rw [c_fail k12, mb2_s, hw]
    rfl
  refine ⟨A1, fun x y u => by rw [t1 x y (by omega), e4 x y (by omega)], k12, fun hk => ?_, fun hk => ?_, fun hk hb => ?_, fun hk hb ht => ?_⟩
  · obtain ⟨q1, q2, q3⟩ := e2 hk
    exact ⟨by rw [t1 _ _ (by omega)]; exact q1, by rw [t1 _ _ (by omega)]; exact q2, by rw [t1 _ _ (by omega)]; exact q3, by rw [t10]; exact q2, by rw [t11]; exact q3⟩
  · obtain ⟨q1, q2, q3⟩ := e3 hk
    rw [un, c_isName (s := 0) (by omega) hT1 (show A1 1 8 = sI le by rw [t1 _ _ (by omega)]; exact q2) (by rw [t1 _ _ (by omega)]; exact q3) (by omega), mb3_s]
    have : nmB tx le 0 = false := decide_eq_false (by omega)
    rw [this, bI_f, if_pos (show (0 : Int32) = 0 from rfl), bad le (by rw [t1 _ _ (by omega)]; exact q2)]
  · obtain ⟨q1, q2, q3⟩ := e2 hk
    have hlt := b5 hk
    have w8 : A1 1 8 = sI (nwB tx le a) := by rw [t1 _ _ (by omega)]; exact q2
    have w9 : A1 1 9 = sI (nwE tx le a - nwB tx le a) := by rw [t1 _ _ (by omega)]; exact q3
    rw [un, c_isName (by omega) hT1 w8 w9 (by omega), mb3_s]
    cases hnm : nmB tx (nwB tx le a) (nwE tx le a - nwB tx le a) with
    | false => rw [bI_f, if_pos (show (0 : Int32) = 0 from rfl), bad _ w8]
    | true =>
      obtain ⟨s0, ht⟩ := hb.resolve_left (by rw [hnm]; decide)
      rw [bI_t, if_neg (show ¬ (1 : Int32) = 0 by decide), if_neg (show ¬ sI σ = 0 by rw [show (0 : Int32) = sI 0 from rfl, sI_eq (by omega) (by omega)]; exact s0), c_isWord (by omega) hT1 w8 w9 (by omega) rfl (by decide) ch_top, mb3_s, ht, bI_t, if_neg (show ¬ (1 : Int32) = 0 by decide), bad _ w8]
  · obtain ⟨q1, q2, q3⟩ := e2 hk
    have hlt := b5 hk
    have w8 : A1 1 8 = sI (nwB tx le a) := by rw [t1 _ _ (by omega)]; exact q2
    have w9 : A1 1 9 = sI (nwE tx le a - nwB tx le a) := by rw [t1 _ _ (by omega)]; exact q3
    have b61 : fX8_newName_b61 fu (sI σ) a2 a3 A1 L = match (nsL σ nl).find? (hitB tx (nwB tx le a) (nwE tx le a - nwB tx le a)) with
      | some _ => some (flA A1 (sI 3) (sI (nwB tx le a)), L)
      | none => if a2 < a3 then some (A1, L) else some (flA A1 (sI 6) (sI (nwB tx le a)), L) := by
      obtain ⟨r, x1, x2⟩ := c_findName (fu := fu) (L := L) hfu hT1 w8 w9 (by omega) hN1 hO hσ
      unfold fX8_newName_b61 fX8_newName_b96
      rw [x1, mb3_s]
      rcases x2 with ⟨y1, y2⟩ | ⟨i, hi, y1, y2⟩
      · rw [y2, y1, if_pos (by decide), c_fail k12, mb2_s, w8]
        rfl
      · have := hN.2.1
        rw [y2, y1, if_neg (show ¬ sI i < 0 by rw [show (0 : Int32) = sI 0 from rfl, sI_lt (by omega) (by omega)]; omega), c_fail k12, mb2_s, w8]
        rfl
    rw [un, c_isName (by omega) hT1 w8 w9 (by omega), mb3_s, hb, bI_t, if_neg (show ¬ (1 : Int32) = 0 by decide)]
    by_cases c0 : σ = 0
    · rw [if_pos (show sI σ = 0 by rw [c0]; rfl), b61]
    · rw [if_neg (show ¬ sI σ = 0 by rw [show (0 : Int32) = sI 0 from rfl, sI_eq (by omega) (by omega)]; exact c0), c_isWord (by omega) hT1 w8 w9 (by omega) rfl (by decide) ch_top, mb3_s, ht.resolve_left c0, bI_f, if_pos (show (0 : Int32) = 0 from rfl), b61]
theorem fl_fr {A A' : mwM} {k w : Int32} (h : fWn A A') : fWn A (flA A' k w) := fun x y u => by
  show mset (mset A' 1 12 k) 1 13 w x y = _
  rw [mset_n (by omega), mset_n (by omega), h x y u]
/-- a name of the whole text -/
theorem st_newName {fu n le a X had most : Nat} {A M : mwM} {Lc Lm : mwL} {tx : Nat → Nat} {nl : List Nm} (hfu : 6100 ≤ fu) (h : Ld A M n tx le a) (hN : NaR A M n X nl) (hh : had < 1000) (hm : most < 1000) : ∃ A' M', fWn A A' ∧ fR M M' ∧ ((had < most ∧ nwK tx le a = true ∧ DX8_newName fu 0 (sI had) (sI most) A Lc = some (A', Lc) ∧ DX19_newName fu (sI had) (sI most) M Lm = some (1, M', Lm) ∧ Ld A' M' n tx le (nwE tx le a) ∧ Hw A' M' (nwB tx le a) (nwE tx le a) ∧ A' 1 10 = sI (nwB tx le a) ∧ A' 1 11 = sI (nwE tx le a - nwB tx le a)) ∨ (DX8_newName fu 0 (sI had) (sI most) A Lc = some (A', Lc) ∧ DX19_newName fu (sI had) (sI most) M Lm = some (0, M', Lm) ∧ Fx A' M')) := by
  obtain ⟨hC, hM, h6, h7, hle, h5, h6', ha, h12⟩ := id h
  have hn := hC.2.1
  obtain ⟨nC, nO, nM, nX, nS⟩ := hN
  obtain ⟨b1, b2, b3, b4, b5, b6, b7, _⟩ := nw_b (tx := tx) ha
  obtain ⟨A1, g1, g12, g2, g3, g4, g5⟩ := c_newName (fu := fu) (σ := 0) (a2 := sI had) (a3 := sI most) (L := Lc) hfu hC h5 h6 ha hle h12 nC nO (by omega)
  obtain ⟨Ax, M1, f1, f2, hr⟩ := st_mustF (fu := fu) (Lc := Lc) (Lm := Lm) hfu h
  rw [show sI 0 = (0 : Int32) from rfl] at g3 g4 g5
  unfold DX19_newName
  rcases hr with ⟨hk, e1, e2, hL, hH⟩ | ⟨hk, e1, e2, hX⟩
  · obtain ⟨w5, w8, w9, w10, w11⟩ := g2 hk
    obtain ⟨_, _, m9, m10, hlt⟩ := id hH
    obtain ⟨_, l2, _, l4, _, _, l7, _, _⟩ := id hL
    have fx : ∀ k : Nat, 1 ≤ k → k ≤ 8 → Fx (flA A1 (sI k) (sI (nwB tx le a))) (mset (mset M1 732 11 (sI k)) 732 12 (sI (nwB tx le a))) := fun k k1 k2 => Fx_i k1 k2 (by omega)
    have fm : ∀ k : Int32, fR M (mset (mset M1 732 11 k) 732 12 (sI (nwB tx le a))) := fun k x y u => by rw [mset_n (by omega), mset_n (by omega), f2 x y u]
    rw [e2, mb3_s, if_neg (show ¬ (1 : Int32) = 0 by decide), m_isName hfu l2 m9 m10 hlt (by omega), mb3_s]
    cases hnm : nmB tx (nwB tx le a) (nwE tx le a - nwB tx le a) with
    | false =>
      rw [g4 hk (Or.inl hnm), bI_f, if_pos (show (0 : Int32) = 0 from rfl), m_fail, mb3_s, m9]
      exact ⟨_, _, fl_fr g1, fm 2, Or.inr ⟨rfl, rfl, fx 2 (by omega) (by omega)⟩⟩
    | true =>
      rw [g5 hk hnm (Or.inl rfl), bI_t, if_neg (show ¬ (1 : Int32) = 0 by decide)]
      obtain ⟨r, x1, x2⟩ := m_findName (fu := fu) (L := Lm) hfu l2 m9 m10 hlt (by omega) (show NmM M1 (nsL 0 nl) by
        obtain ⟨q1, q2, q3⟩ := nM
        refine ⟨by rw [f2 _ _ (by omega)]; exact q1, q2, fun k hk => ?_⟩
        rw [f2 _ _ (by omega), f2 _ _ (by omega), f2 _ _ (by omega), f2 _ _ (by omega)]
        exact q3 k hk) (NmO_s nO)
      rw [x1, mb3_s]
      rcases x2 with ⟨y1, y2⟩ | ⟨i, hi, y1, y2⟩
      · rw [y2, y1]
        dsimp only
        rw [if_pos (show (-1 : Int32) < 0 by decide)]
        unfold fX19_newName_b61 fX19_newName_b66
        by_cases c : had < most
        · rw [if_pos (show sI had < sI most by rw [sI_lt (by omega) (by omega)]; exact c), if_pos (show sI had < sI most by rw [sI_lt (by omega) (by omega)]; exact c)]
          refine ⟨A1, M1, g1, f2, Or.inl ⟨c, hk, rfl, rfl, ⟨TxC_f hC (fun x y u => g1 x y (by omega)), l2, by rw [g1 _ _ (by omega)]; exact h6, l4, hle, w5, l7, b4, g12⟩, ⟨w8, w9, m9, m10, hlt⟩, w10, w11⟩⟩
        · rw [if_neg (show ¬ sI had < sI most by rw [sI_lt (by omega) (by omega)]; exact c), if_neg (show ¬ sI had < sI most by rw [sI_lt (by omega) (by omega)]; exact c), m_fail, mb3_s, if_pos (show (0 : Int32) = 0 from rfl), m9]
          exact ⟨_, _, fl_fr g1, fm 6, Or.inr ⟨rfl, rfl, fx 6 (by omega) (by omega)⟩⟩
      · have := nM.2.1
        rw [y2, y1, if_neg (show ¬ sI i < 0 by rw [show (0 : Int32) = sI 0 from rfl, sI_lt (by omega) (by omega)]; omega), m_fail, mb3_s, m9]
        dsimp only
        exact ⟨_, _, fl_fr g1, fm 3, Or.inr ⟨rfl, rfl, fx 3 (by omega) (by omega)⟩⟩
  · rw [g3 hk, e2, mb3_s, if_pos (show (0 : Int32) = 0 from rfl)]
    -- the reference's fault stands at the end of the line
    obtain ⟨M9, m1, m2, m3, m4⟩ := m_next (fu := fu) (L := Lm) hfu hM h6' h7 ha hle
    have hM1 : M1 = mset (mset M9 732 11 (sI 2)) 732 12 (sI le) := by
      unfold DX19_must at e2
      rw [m1, mb3_s, hk, bI_f, if_pos (show (0 : Int32) = 0 from rfl), m_fail, mb3_s, if_pos (show (0 : Int32) = 0 from rfl), m4 _ _ (by omega), h7] at e2
      unfold fX19_must_b24 at e2
      have := Option.some.inj e2
      exact (congrArg (fun z => z.2.1) this).symm
    refine ⟨_, M1, fl_fr g1, f2, Or.inr ⟨rfl, rfl, ?_⟩⟩
    rw [hM1]
    exact Fx_i (by omega) (by omega) (by omega)
