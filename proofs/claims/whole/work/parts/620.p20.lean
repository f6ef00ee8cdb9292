/-! READING: a new name must come -/
abbrev fWn (A A' : mwM) : Prop := ∀ x y, ¬ (x = 1 ∧ (y = 5 ∨ (8 ≤ y ∧ y ≤ 13))) → A' x y = A x y
abbrev flA (A : mwM) (k w : Int32) : mwM := mset (mset A 1 12 k) 1 13 w
theorem nf_new {fu : Nat} {a1 a2 a3 : Int32} {A : mwM} {L : mwL} (h : ¬ A 1 12 = 0) : DX8_newName fu a1 a2 a3 A L = some (A, L) := by
  unfold DX8_newName
  rw [if_neg h]
theorem c_newName {fu n le a σ : Nat} {a2 a3 : Int32} {A : mwM} {L : mwL} {tx : Nat → Nat} {nl : List Nm} (hfu : 6100 ≤ fu) (hT : TxC A n tx) (h5 : A 1 5 = sI a) (h6 : A 1 6 = sI le) (ha : a ≤ le) (hle : le ≤ n) (h12 : A 1 12 = 0) (hN : NmC A nl) (hO : NmO n nl) (hσ : σ < 100) : ∃ A1, fWn A A1 ∧ A1 1 12 = 0 ∧ (nwK tx le a = true → A1 1 5 = sI (nwE tx le a) ∧ A1 1 8 = sI (nwB tx le a) ∧ A1 1 9 = sI (nwE tx le a - nwB tx le a) ∧ A1 1 10 = sI (nwB tx le a) ∧ A1 1 11 = sI (nwE tx le a - nwB tx le a)) ∧
    (nwK tx le a = false → DX8_newName fu (sI σ) a2 a3 A L = some (flA A1 (sI 2) (sI le), L)) ∧
    (nwK tx le a = true → (nmB tx (nwB tx le a) (nwE tx le a - nwB tx le a) = false ∨ (σ ≠ 0 ∧ isW tx (nwB tx le a) (nwE tx le a - nwB tx le a) [116, 111, 112] = true)) → DX8_newName fu (sI σ) a2 a3 A L = some (flA A1 (sI 2) (sI (nwB tx le a)), L)) ∧
    (nwK tx le a = true → nmB tx (nwB tx le a) (nwE tx le a - nwB tx le a) = true → (σ = 0 ∨ isW tx (nwB tx le a) (nwE tx le a - nwB tx le a) [116, 111, 112] = false) → DX8_newName fu (sI σ) a2 a3 A L = match (nsL σ nl).find? (hitB tx (nwB tx le a) (nwE tx le a - nwB tx le a)) with
      | some _ => some (flA A1 (sI 3) (sI (nwB tx le a)), L)
      | none => if a2 < a3 then some (A1, L) else some (flA A1 (sI 6) (sI (nwB tx le a)), L)) := by
  have hn := hT.2.1
  obtain ⟨A0, e1, e2, e3, e4⟩ := c_next (fu := fu) (L := L) hfu hT h5 h6 ha hle
  obtain ⟨b1, b2, b3, b4, b5, b6, b7, _⟩ := nw_b (tx := tx) ha
  generalize hA1 : mset (mset A0 1 10 (A0 1 8)) 1 11 (A0 1 9) = A1
  have t1 : ∀ x y, ¬ (x = 1 ∧ (y = 10 ∨ y = 11)) → A1 x y = A0 x y := fun x y u => by rw [← hA1, mset_n (by omega), mset_n (by omega)]
  have t10 : A1 1 10 = A0 1 8 := by rw [← hA1, mset_n (by omega), mset_s]
  have t11 : A1 1 11 = A0 1 9 := by rw [← hA1, mset_s]
  have k12 : A1 1 12 = 0 := by rw [t1 _ _ (by omega), e4 _ _ (by omega)]; exact h12
  have hT1 : TxC A1 n tx := TxC_f hT (fun x y u => by rw [t1 x y (by omega), e4 x y (by omega)])
  have hN1 : NmC A1 nl := by
    obtain ⟨n1, n2, n3⟩ := hN
    refine ⟨by rw [t1 _ _ (by omega), e4 _ _ (by omega)]; exact n1, n2, fun i hi => ?_⟩
    rw [t1 _ _ (by omega), t1 _ _ (by omega), t1 _ _ (by omega), t1 _ _ (by omega), t1 _ _ (by omega), e4 _ _ (by omega), e4 _ _ (by omega), e4 _ _ (by omega), e4 _ _ (by omega), e4 _ _ (by omega)]
    exact n3 i hi
  have un : DX8_newName fu (sI σ) a2 a3 A L = mb3 (DX8_isName fu A1 L) (fun r19 M17 L18 => (if r19 = 0 then fX8_newName_b49 fu (sI σ) a2 a3 M17 L18 else (if sI σ = 0 then fX8_newName_b61 fu (sI σ) a2 a3 M17 L18 else mb3 (DX8_isWord fu 6 M17 L18) (fun r24 M22 L23 => (if r24 = 0 then fX8_newName_b61 fu (sI σ) a2 a3 M22 L23 else fX8_newName_b49 fu (sI σ) a2 a3 M22 L23))))) := by
    unfold DX8_newName
    rw [if_pos h12, e1, mb2_s, mlet_e, mlet_e, mset_n (show ¬ (1 = 1 ∧ 9 = 10) by omega), hA1]
  have bad : ∀ w : Nat, A1 1 8 = sI w → fX8_newName_b49 fu (sI σ) a2 a3 A1 L = some (flA A1 (sI 2) (sI w), L) := fun w hw => by
    unfold fX8_newName_b49 fX8_newName_b96
    rw [c_fail k12, mb2_s, hw]
    rfl
  refine ⟨A1, fun x y u => by rw [t1 x y (by omega), e4 x y (by omega)], k12, fun hk => ?_, fun hk => ?_, fun hk hb => ?_, fun hk hb ht => ?_⟩
  · obtain ⟨q1, q2, q3⟩ := e2 hk
    exact ⟨by rw [t1 _ _ (by omega)]; exact q1, by rw [t1 _ _ (by omega)]; exact q2, by rw [t1 _ _ (by omega)]; exact q3, by rw [t10]; exact q2, by rw [t11]; exact q3⟩
  · obtain ⟨q1, q2, q3⟩ := e3 hk
    rw [un, c_isName (s := 0) (by omega) hT1 (show A1 1 8 = sI le by rw [t1 _ _ (by omega)]; exact q2) (by rw [t1 _ _ (by omega)]; exact q3) (by omega), mb3_s]
    have : nmB tx le 0 = false := decide_eq_false (by omega)
    rw [this, bI_f, if_pos (show (0 : Int32) = 0 from rfl), bad le (by rw [t1 _ _ (by omega)]; exact q2)]
  · obtain ⟨q1, q2, q3⟩ := e2 hk
    have hlt := b5 hk
    have w8 : A1 1 8 = sI (nwB tx le a) := by rw [t1 _ _ (by omega)]; exact q2
    have w9 : A1 1 9 = sI (nwE tx le a - nwB tx le a) := by rw [t1 _ _ (by omega)]; exact q3
    rw [un, c_isName (by omega) hT1 w8 w9 (by omega), mb3_s]
    cases hnm : nmB tx (nwB tx le a) (nwE tx le a - nwB tx le a) with
    | false => rw [bI_f, if_pos (show (0 : Int32) = 0 from rfl), bad _ w8]
    | true =>
      obtain ⟨s0, ht⟩ := hb.resolve_left (by rw [hnm]; decide)
      rw [bI_t, if_neg (show ¬ (1 : Int32) = 0 by decide), if_neg (show ¬ sI σ = 0 by rw [show (0 : Int32) = sI 0 from rfl, sI_eq (by omega) (by omega)]; exact s0), c_isWord (by omega) hT1 w8 w9 (by omega) rfl (by decide) ch_top, mb3_s, ht, bI_t, if_neg (show ¬ (1 : Int32) = 0 by decide), bad _ w8]
  · obtain ⟨q1, q2, q3⟩ := e2 hk
    have hlt := b5 hk
    have w8 : A1 1 8 = sI (nwB tx le a) := by rw [t1 _ _ (by omega)]; exact q2
    have w9 : A1 1 9 = sI (nwE tx le a - nwB tx le a) := by rw [t1 _ _ (by omega)]; exact q3
    have b61 : fX8_newName_b61 fu (sI σ) a2 a3 A1 L = match (nsL σ nl).find? (hitB tx (nwB tx le a) (nwE tx le a - nwB tx le a)) with
      | some _ => some (flA A1 (sI 3) (sI (nwB tx le a)), L)
      | none => if a2 < a3 then some (A1, L) else some (flA A1 (sI 6) (sI (nwB tx le a)), L) := by
      obtain ⟨r, x1, x2⟩ := c_findName (fu := fu) (L := L) hfu hT1 w8 w9 (by omega) hN1 hO hσ
      unfold fX8_newName_b61 fX8_newName_b96
      rw [x1, mb3_s]
      rcases x2 with ⟨y1, y2⟩ | ⟨i, hi, y1, y2⟩
      · rw [y2, y1, if_pos (by decide), c_fail k12, mb2_s, w8]
        rfl
      · have := hN.2.1
        rw [y2, y1, if_neg (show ¬ sI i < 0 by rw [show (0 : Int32) = sI 0 from rfl, sI_lt (by omega) (by omega)]; omega), c_fail k12, mb2_s, w8]
        rfl
    rw [un, c_isName (by omega) hT1 w8 w9 (by omega), mb3_s, hb, bI_t, if_neg (show ¬ (1 : Int32) = 0 by decide)]
    by_cases c0 : σ = 0
    · rw [if_pos (show sI σ = 0 by rw [c0]; rfl), b61]
    · rw [if_neg (show ¬ sI σ = 0 by rw [show (0 : Int32) = sI 0 from rfl, sI_eq (by omega) (by omega)]; exact c0), c_isWord (by omega) hT1 w8 w9 (by omega) rfl (by decide) ch_top, mb3_s, ht.resolve_left c0, bI_f, if_pos (show (0 : Int32) = 0 from rfl), b61]
theorem fl_fr {A A' : mwM} {k w : Int32} (h : fWn A A') : fWn A (flA A' k w) := fun x y u => by
  show mset (mset A' 1 12 k) 1 13 w x y = _
  rw [mset_n (by omega), mset_n (by omega), h x y u]
/-- a name of the whole text -/
theorem st_newName {fu n le a X had most : Nat} {A M : mwM} {Lc Lm : mwL} {tx : Nat → Nat} {nl : List Nm} (hfu : 6100 ≤ fu) (h : Ld A M n tx le a) (hN : NaR A M n X nl) (hh : had < 1000) (hm : most < 1000) : ∃ A' M', fWn A A' ∧ fR M M' ∧ ((had < most ∧ nwK tx le a = true ∧ DX8_newName fu 0 (sI had) (sI most) A Lc = some (A', Lc) ∧ DX19_newName fu (sI had) (sI most) M Lm = some (1, M', Lm) ∧ Ld A' M' n tx le (nwE tx le a) ∧ Hw A' M' (nwB tx le a) (nwE tx le a) ∧ A' 1 10 = sI (nwB tx le a) ∧ A' 1 11 = sI (nwE tx le a - nwB tx le a)) ∨ (DX8_newName fu 0 (sI had) (sI most) A Lc = some (A', Lc) ∧ DX19_newName fu (sI had) (sI most) M Lm = some (0, M', Lm) ∧ Fx A' M')) := by
  obtain ⟨hC, hM, h6, h7, hle, h5, h6', ha, h12⟩ := id h
  have hn := hC.2.1
  obtain ⟨nC, nO, nM, nX, nS⟩ := hN
  obtain ⟨b1, b2, b3, b4, b5, b6, b7, _⟩ := nw_b (tx := tx) ha
  obtain ⟨A1, g1, g12, g2, g3, g4, g5⟩ := c_newName (fu := fu) (σ := 0) (a2 := sI had) (a3 := sI most) (L := Lc) hfu hC h5 h6 ha hle h12 nC nO (by omega)
  obtain ⟨Ax, M1, f1, f2, hr⟩ := st_mustF (fu := fu) (Lc := Lc) (Lm := Lm) hfu h
  rw [show sI 0 = (0 : Int32) from rfl] at g3 g4 g5
  unfold DX19_newName
  rcases hr with ⟨hk, e1, e2, hL, hH⟩ | ⟨hk, e1, e2, hX⟩
  · obtain ⟨w5, w8, w9, w10, w11⟩ := g2 hk
    obtain ⟨_, _, m9, m10, hlt⟩ := id hH
    obtain ⟨_, l2, _, l4, _, _, l7, _, _⟩ := id hL
    have fx : ∀ k : Nat, 1 ≤ k → k ≤ 8 → Fx (flA A1 (sI k) (sI (nwB tx le a))) (mset (mset M1 732 11 (sI k)) 732 12 (sI (nwB tx le a))) := fun k k1 k2 => Fx_i k1 k2 (by omega)
    have fm : ∀ k : Int32, fR M (mset (mset M1 732 11 k) 732 12 (sI (nwB tx le a))) := fun k x y u => by rw [mset_n (by omega), mset_n (by omega), f2 x y u]
    rw [e2, mb3_s, if_neg (show ¬ (1 : Int32) = 0 by decide), m_isName hfu l2 m9 m10 hlt (by omega), mb3_s]
    cases hnm : nmB tx (nwB tx le a) (nwE tx le a - nwB tx le a) with
    | false =>
      rw [g4 hk (Or.inl hnm), bI_f, if_pos (show (0 : Int32) = 0 from rfl), m_fail, mb3_s, m9]
      exact ⟨_, _, fl_fr g1, fm 2, Or.inr ⟨rfl, rfl, fx 2 (by omega) (by omega)⟩⟩
    | true =>
      rw [g5 hk hnm (Or.inl rfl), bI_t, if_neg (show ¬ (1 : Int32) = 0 by decide)]
      obtain ⟨r, x1, x2⟩ := m_findName (fu := fu) (L := Lm) hfu l2 m9 m10 hlt (by omega) (show NmM M1 (nsL 0 nl) by
        obtain ⟨q1, q2, q3⟩ := nM
        refine ⟨by rw [f2 _ _ (by omega)]; exact q1, q2, fun k hk => ?_⟩
        rw [f2 _ _ (by omega), f2 _ _ (by omega), f2 _ _ (by omega), f2 _ _ (by omega)]
        exact q3 k hk) (NmO_s nO)
      rw [x1, mb3_s]
      rcases x2 with ⟨y1, y2⟩ | ⟨i, hi, y1, y2⟩
      · rw [y2, y1]
        dsimp only
        rw [if_pos (show (-1 : Int32) < 0 by decide)]
        unfold fX19_newName_b61 fX19_newName_b66
        by_cases c : had < most
        · rw [if_pos (show sI had < sI most by rw [sI_lt (by omega) (by omega)]; exact c), if_pos (show sI had < sI most by rw [sI_lt (by omega) (by omega)]; exact c)]
          refine ⟨A1, M1, g1, f2, Or.inl ⟨c, hk, rfl, rfl, ⟨TxC_f hC (fun x y u => g1 x y (by omega)), l2, by rw [g1 _ _ (by omega)]; exact h6, l4, hle, w5, l7, b4, g12⟩, ⟨w8, w9, m9, m10, hlt⟩, w10, w11⟩⟩
        · rw [if_neg (show ¬ sI had < sI most by rw [sI_lt (by omega) (by omega)]; exact c), if_neg (show ¬ sI had < sI most by rw [sI_lt (by omega) (by omega)]; exact c), m_fail, mb3_s, if_pos (show (0 : Int32) = 0 from rfl), m9]
          exact ⟨_, _, fl_fr g1, fm 6, Or.inr ⟨rfl, rfl, fx 6 (by omega) (by omega)⟩⟩
      · have := nM.2.1
        rw [y2, y1, if_neg (show ¬ sI i < 0 by rw [show (0 : Int32) = sI 0 from rfl, sI_lt (by omega) (by omega)]; omega), m_fail, mb3_s, m9]
        dsimp only
        exact ⟨_, _, fl_fr g1, fm 3, Or.inr ⟨rfl, rfl, fx 3 (by omega) (by omega)⟩⟩
  · rw [g3 hk, e2, mb3_s, if_pos (show (0 : Int32) = 0 from rfl)]
    -- the reference's fault stands at the end of the line
    obtain ⟨M9, m1, m2, m3, m4⟩ := m_next (fu := fu) (L := Lm) hfu hM h6' h7 ha hle
    have hM1 : M1 = mset (mset M9 732 11 (sI 2)) 732 12 (sI le) := by
      unfold DX19_must at e2
      rw [m1, mb3_s, hk, bI_f, if_pos (show (0 : Int32) = 0 from rfl), m_fail, mb3_s, if_pos (show (0 : Int32) = 0 from rfl), m4 _ _ (by omega), h7] at e2
      unfold fX19_must_b24 at e2
      have := Option.some.inj e2
      exact (congrArg (fun z => z.2.1) this).symm
    refine ⟨_, M1, fl_fr g1, f2, Or.inr ⟨rfl, rfl, ?_⟩⟩
    rw [hM1]
    exact Fx_i (by omega) (by omega) (by omega)
/-! READING: a new name within a chart -/
abbrev flM (M : mwM) (k w : Int32) : mwM := mset (mset M 732 11 k) 732 12 w
theorem m_newIn {fu n w e : Nat} {fl : Bool} {tx : Nat → Nat} {M : mwM} {L : mwL} (hfu : 6100 ≤ fu) (hT : TxM M n tx) (h9 : M 732 9 = sI w) (h10 : M 732 10 = sI e) (hw : w < e) (he : e ≤ n) : DX19_newIn fu (bI fl) M L = if nmB tx w (e - w) = true ∧ isW tx w (e - w) [116, 111, 112] = false then (if fl = true then some (0, flM M (sI 3) (sI w), L) else some (1, M, L)) else some (0, flM M (sI 2) (sI w), L) := by
  have hn := hT.2.1
  unfold DX19_newIn fX19_newIn_b18 fX19_newIn_b44 fX19_newIn_b49
  rw [m_isName hfu hT h9 h10 hw he, mb3_s]
  cases hnm : nmB tx w (e - w) with
  | false =>
    rw [bI_f, if_pos (show (0 : Int32) = 0 from rfl), m_fail, mb3_s, h9, if_neg (by simp)]
    rfl
  | true =>
    rw [bI_t, if_neg (show ¬ (1 : Int32) = 0 by decide), m_is9 (by omega) hT h9 h10 hw he ok_top, mb3_s]
    cases hi : isW tx w (e - w) [116, 111, 112] with
    | true =>
      rw [bI_t, if_neg (show ¬ (1 : Int32) = 0 by decide), m_fail, mb3_s, h9, if_neg (by simp)]
      rfl
    | false =>
      rw [bI_f, if_pos (show (0 : Int32) = 0 from rfl), if_pos (show true = true ∧ false = false from ⟨rfl, rfl⟩)]
      cases fl with
      | false =>
        rw [bI_f, if_pos (show (0 : Int32) = 0 from rfl), if_neg (by simp)]
        rfl
      | true =>
        rw [bI_t, if_neg (show ¬ (1 : Int32) = 0 by decide), m_fail, mb3_s, h9, if_pos (show (0 : Int32) = 0 from rfl), if_pos rfl]
        rfl
theorem fm_fr {M M1 : mwM} {k w : Int32} (h : fR M M1) : fR M (flM M1 k w) := fun x y u => by
  show mset (mset M1 732 11 k) 732 12 w x y = _
  rw [mset_n (by omega), mset_n (by omega), h x y u]
/-- the second half: a name found or not, then newIn -/
theorem st_newH {fu n le a σ : Nat} {fl : Bool} {A M M1 : mwM} {Lc Lm : mwL} {tx : Nat → Nat} {nl : List Nm} (G : mwM → mwL → Option (Int32 × mwM × mwL)) (hfu : 6100 ≤ fu) (h : Ld A M n tx le a) (hC : NmC A nl) (hO : NmO n nl) (h0 : 0 < σ) (hσ : σ < 100) (hk : nwK tx le a = true) (fm : fR M M1) (hM1 : TxM M1 n tx) (m6 : M1 732 6 = sI (nwE tx le a)) (m9 : M1 732 9 = sI (nwB tx le a)) (m10 : M1 732 10 = sI (nwE tx le a)) (hfl : fl = ((nsL σ nl).find? (hitB tx (nwB tx le a) (nwE tx le a - nwB tx le a))).isSome) : ∃ A' M', fWn A A' ∧ fR M M' ∧ ((DX8_newName fu (sI σ) 0 1 A Lc = some (A', Lc) ∧ mb3 (DX19_newIn fu (bI fl) M1 Lm) (fun r3 M1 L2 => if r3 = 0 then some (0, M1, L2) else G M1 L2) = G M' Lm ∧ Ld A' M' n tx le (nwE tx le a) ∧ Hw A' M' (nwB tx le a) (nwE tx le a) ∧ A' 1 10 = sI (nwB tx le a) ∧ A' 1 11 = sI (nwE tx le a - nwB tx le a)) ∨ (DX8_newName fu (sI σ) 0 1 A Lc = some (A', Lc) ∧ mb3 (DX19_newIn fu (bI fl) M1 Lm) (fun r3 M1 L2 => if r3 = 0 then some (0, M1, L2) else G M1 L2) = some (0, M', Lm) ∧ Fx A' M')) := by
  obtain ⟨hT, hM, h6, h7, hle, h5, h6', ha, h12⟩ := id h
  have hn := hT.2.1
  obtain ⟨b1, b2, b3, b4, b5, b6, b7, _⟩ := nw_b (tx := tx) ha
  have hlt := b5 hk
  obtain ⟨A1, g1, g12, g2, g3, g4, g5⟩ := c_newName (fu := fu) (σ := σ) (a2 := 0) (a3 := 1) (L := Lc) hfu hT h5 h6 ha hle h12 hC hO hσ
  obtain ⟨w5, w8, w9, w10, w11⟩ := g2 hk
  have fx : ∀ k : Nat, 1 ≤ k → k ≤ 8 → Fx (flA A1 (sI k) (sI (nwB tx le a))) (flM M1 (sI k) (sI (nwB tx le a))) := fun k k1 k2 => Fx_i k1 k2 (by omega)
  rw [m_newIn hfu hM1 m9 m10 hlt (by omega)]
  by_cases c : nmB tx (nwB tx le a) (nwE tx le a - nwB tx le a) = true ∧ isW tx (nwB tx le a) (nwE tx le a - nwB tx le a) [116, 111, 112] = false
  · rw [if_pos c, g5 hk c.1 (Or.inr c.2)]
    cases hf : (nsL σ nl).find? (hitB tx (nwB tx le a) (nwE tx le a - nwB tx le a)) with
    | none =>
      rw [hf] at hfl
      dsimp only
      rw [if_pos (show (0 : Int32) < 1 by decide), hfl, if_neg (by simp), mb3_s, if_neg (show ¬ (1 : Int32) = 0 by decide)]
      refine ⟨A1, M1, g1, fm, Or.inl ⟨rfl, rfl, ⟨TxC_f hT (fun x y u => g1 x y (by omega)), hM1, by rw [g1 _ _ (by omega)]; exact h6, by rw [fm _ _ (by omega)]; exact h7, hle, w5, m6, b4, g12⟩, ⟨w8, w9, m9, m10, hlt⟩, w10, w11⟩⟩
    | some q =>
      rw [hf] at hfl
      dsimp only
      rw [hfl, if_pos (by simp), mb3_s, if_pos (show (0 : Int32) = 0 from rfl)]
      exact ⟨_, _, fl_fr g1, fm_fr fm, Or.inr ⟨rfl, rfl, fx 3 (by omega) (by omega)⟩⟩
  · rw [if_neg c, g4 hk (by
      cases hnm : nmB tx (nwB tx le a) (nwE tx le a - nwB tx le a) with
      | false => exact Or.inl rfl
      | true =>
        cases hi : isW tx (nwB tx le a) (nwE tx le a - nwB tx le a) [116, 111, 112] with
        | false => exact absurd ⟨hnm, hi⟩ c
        | true => exact Or.inr ⟨by omega, rfl⟩), mb3_s, if_pos (show (0 : Int32) = 0 from rfl)]
    exact ⟨_, _, fl_fr g1, fm_fr fm, Or.inr ⟨rfl, rfl, fx 2 (by omega) (by omega)⟩⟩
/-- where the reference finds no further word -/
theorem st_newE {fu n le a σ : Nat} {A M : mwM} {Lc Lm : mwL} {tx : Nat → Nat} {nl : List Nm} (hfu : 6100 ≤ fu) (h : Ld A M n tx le a) (hC : NmC A nl) (hO : NmO n nl) (hσ : σ < 100) (hk : nwK tx le a = false) : ∃ A' M', fWn A A' ∧ fR M M' ∧ DX8_newName fu (sI σ) 0 1 A Lc = some (A', Lc) ∧ DX19_must fu M Lm = some (0, M', Lm) ∧ Fx A' M' := by
  obtain ⟨hT, hM, h6, h7, hle, h5, h6', ha, h12⟩ := id h
  have hn := hT.2.1
  obtain ⟨A1, g1, g12, g2, g3, g4, g5⟩ := c_newName (fu := fu) (σ := σ) (a2 := 0) (a3 := 1) (L := Lc) hfu hT h5 h6 ha hle h12 hC hO hσ
  obtain ⟨M9, m1, m2, m3, m4⟩ := m_next (fu := fu) (L := Lm) hfu hM h6' h7 ha hle
  refine ⟨flA A1 (sI 2) (sI le), flM M9 (sI 2) (sI le), fl_fr g1, fm_fr (fun x y u => m4 x y (by omega)), g3 hk, ?_, Fx_i (by omega) (by omega) (by omega)⟩
  unfold DX19_must
  rw [m1, mb3_s, hk, bI_f, if_pos (show (0 : Int32) = 0 from rfl), m_fail, mb3_s, if_pos (show (0 : Int32) = 0 from rfl), m4 _ _ (by omega), h7]
  rfl
theorem NmC_f {A A' : mwM} {nl : List Nm} (h : NmC A nl) (hA : ∀ a y, (a = 1 ∧ y = 3) ∨ (726 ≤ a ∧ a ≤ 730) → A' a y = A a y) : NmC A' nl := by
  obtain ⟨n1, n2, n3⟩ := h
  refine ⟨by rw [hA _ _ (by omega)]; exact n1, n2, fun i hi => ?_⟩
  rw [hA _ _ (by omega), hA _ _ (by omega), hA _ _ (by omega), hA _ _ (by omega), hA _ _ (by omega)]
  exact n3 i hi
theorem st_newStt {fu n le a x X : Nat} {A M : mwM} {Lc Lm : mwL} {tx : Nat → Nat} {nl : List Nm} (G : mwM → mwL → Option (Int32 × mwM × mwL)) (hfu : 6100 ≤ fu) (h : Ld A M n tx le a) (hN : NaR A M n X nl) (hx : x < X) : ∃ A' M', fWn A A' ∧ fR M M' ∧ ((nwK tx le a = true ∧ DX8_newName fu (sI (1 + 2 * x)) 0 1 A Lc = some (A', Lc) ∧ mb3 (DX19_must fu M Lm) (fun r51 M49 L50 => if r51 = 0 then some (0, M49, L50) else mb3 (DX19_findState fu (sI x) M49 L50) (fun r55 M53 L54 => if r55 ≤ 0 then mb3 (DX19_newIn fu 0 M53 L54) (fun r3 M1 L2 => if r3 = 0 then some (0, M1, L2) else G M1 L2) else mb3 (DX19_newIn fu 1 M53 L54) (fun r3 M1 L2 => if r3 = 0 then some (0, M1, L2) else G M1 L2))) = G M' Lm ∧ Ld A' M' n tx le (nwE tx le a) ∧ Hw A' M' (nwB tx le a) (nwE tx le a) ∧ A' 1 10 = sI (nwB tx le a) ∧ A' 1 11 = sI (nwE tx le a - nwB tx le a)) ∨ (DX8_newName fu (sI (1 + 2 * x)) 0 1 A Lc = some (A', Lc) ∧ mb3 (DX19_must fu M Lm) (fun r51 M49 L50 => if r51 = 0 then some (0, M49, L50) else mb3 (DX19_findState fu (sI x) M49 L50) (fun r55 M53 L54 => if r55 ≤ 0 then mb3 (DX19_newIn fu 0 M53 L54) (fun r3 M1 L2 => if r3 = 0 then some (0, M1, L2) else G M1 L2) else mb3 (DX19_newIn fu 1 M53 L54) (fun r3 M1 L2 => if r3 = 0 then some (0, M1, L2) else G M1 L2))) = some (0, M', Lm) ∧ Fx A' M')) := by
  obtain ⟨hT, hM, h6, h7, hle, h5, h6', ha, h12⟩ := id h
  have hn := hT.2.1
  obtain ⟨nC, nO, nM, nX, nS⟩ := id hN
  cases hk : nwK tx le a with
  | false =>
    obtain ⟨A1, M1, f1, f2, e1, e2, hX⟩ := st_newE (fu := fu) (σ := 1 + 2 * x) (Lc := Lc) (Lm := Lm) hfu h nC nO (by omega) hk
    rw [e1, e2, mb3_s, if_pos (show (0 : Int32) = 0 from rfl)]
    exact ⟨A1, M1, f1, f2, Or.inr ⟨rfl, rfl, hX⟩⟩
  | true =>
    obtain ⟨Ax, M1, f1, f2, hr⟩ := st_mustF (fu := fu) (Lc := Lc) (Lm := Lm) hfu h
    rcases hr with ⟨_, e1, e2, hL, hH⟩ | ⟨hk', _⟩
    · obtain ⟨_, _, m9, m10, hlt⟩ := id hH
      obtain ⟨_, l2, _, l4, _, _, l7, l8, _⟩ := id hL
      obtain ⟨_, _, _, _, nS1⟩ := NaR_f hN (A' := A) (M' := M1) (fun _ _ _ => rfl) (fun p y u => f2 p y (by omega))
      obtain ⟨r, y1, y2⟩ := m_findState (fu := fu) (L := Lm) hfu l2 m9 m10 hlt (by omega) (show x < 12 by omega) (nS1 x hx).1 (NmO_s nO)
      have hl := (nS1 x hx).1.2.1
      rw [e2, mb3_s, if_neg (show ¬ (1 : Int32) = 0 by decide), y1, mb3_s]
      obtain ⟨A', M', q1, q2, q3⟩ := st_newH (Lc := Lc) (Lm := Lm) (fl := ((nsL (1 + 2 * x) nl).find? (hitB tx (nwB tx le a) (nwE tx le a - nwB tx le a))).isSome) G hfu h nC nO (show 0 < 1 + 2 * x by omega) (by omega) hk f2 l2 l7 m9 m10 rfl
      rcases y2 with ⟨y2, y3⟩ | ⟨i, hi, y2, y3⟩
      · rw [y2, if_pos (show (-1 : Int32) ≤ 0 by decide)]
        rw [y3, show bI (none : Option Nm).isSome = 0 from rfl] at q3
        refine ⟨A', M', q1, q2, ?_⟩
        rcases q3 with q3 | q3
        · exact Or.inl ⟨rfl, q3⟩
        · exact Or.inr q3
      · rw [y2, if_neg (show ¬ sI (i + 1) ≤ 0 by rw [show (0 : Int32) = sI 0 from rfl, sI_le (by omega) (by omega)]; omega)]
        rw [y3, show bI (some (nsL (1 + 2 * x) nl)[i]).isSome = 1 from rfl] at q3
        refine ⟨A', M', q1, q2, ?_⟩
        rcases q3 with q3 | q3
        · exact Or.inl ⟨rfl, q3⟩
        · exact Or.inr q3
    · rw [hk] at hk'
      cases hk'
theorem st_newDat {fu n le a x X : Nat} {A M : mwM} {Lc Lm : mwL} {tx : Nat → Nat} {nl : List Nm} (G : mwM → mwL → Option (Int32 × mwM × mwL)) (hfu : 6100 ≤ fu) (h : Ld A M n tx le a) (hN : NaR A M n X nl) (hx : x < X) : ∃ A' M', fWn A A' ∧ fR M M' ∧ ((nwK tx le a = true ∧ DX8_newName fu (sI (2 + 2 * x)) 0 1 A Lc = some (A', Lc) ∧ mb3 (DX19_must fu M Lm) (fun r51 M49 L50 => if r51 = 0 then some (0, M49, L50) else mb3 (DX19_findDatum fu (sI x) M49 L50) (fun r55 M53 L54 => if r55 < 0 then mb3 (DX19_newIn fu 0 M53 L54) (fun r3 M1 L2 => if r3 = 0 then some (0, M1, L2) else G M1 L2) else mb3 (DX19_newIn fu 1 M53 L54) (fun r3 M1 L2 => if r3 = 0 then some (0, M1, L2) else G M1 L2))) = G M' Lm ∧ Ld A' M' n tx le (nwE tx le a) ∧ Hw A' M' (nwB tx le a) (nwE tx le a) ∧ A' 1 10 = sI (nwB tx le a) ∧ A' 1 11 = sI (nwE tx le a - nwB tx le a)) ∨ (DX8_newName fu (sI (2 + 2 * x)) 0 1 A Lc = some (A', Lc) ∧ mb3 (DX19_must fu M Lm) (fun r51 M49 L50 => if r51 = 0 then some (0, M49, L50) else mb3 (DX19_findDatum fu (sI x) M49 L50) (fun r55 M53 L54 => if r55 < 0 then mb3 (DX19_newIn fu 0 M53 L54) (fun r3 M1 L2 => if r3 = 0 then some (0, M1, L2) else G M1 L2) else mb3 (DX19_newIn fu 1 M53 L54) (fun r3 M1 L2 => if r3 = 0 then some (0, M1, L2) else G M1 L2))) = some (0, M', Lm) ∧ Fx A' M')) := by
  obtain ⟨hT, hM, h6, h7, hle, h5, h6', ha, h12⟩ := id h
  have hn := hT.2.1
  obtain ⟨nC, nO, nM, nX, nS⟩ := id hN
  cases hk : nwK tx le a with
  | false =>
    obtain ⟨A1, M1, f1, f2, e1, e2, hX⟩ := st_newE (fu := fu) (σ := 2 + 2 * x) (Lc := Lc) (Lm := Lm) hfu h nC nO (by omega) hk
    rw [e1, e2, mb3_s, if_pos (show (0 : Int32) = 0 from rfl)]
    exact ⟨A1, M1, f1, f2, Or.inr ⟨rfl, rfl, hX⟩⟩
  | true =>
    obtain ⟨Ax, M1, f1, f2, hr⟩ := st_mustF (fu := fu) (Lc := Lc) (Lm := Lm) hfu h
    rcases hr with ⟨_, e1, e2, hL, hH⟩ | ⟨hk', _⟩
    · obtain ⟨_, _, m9, m10, hlt⟩ := id hH
      obtain ⟨_, l2, _, l4, _, _, l7, l8, _⟩ := id hL
      obtain ⟨_, _, _, _, nS1⟩ := NaR_f hN (A' := A) (M' := M1) (fun _ _ _ => rfl) (fun p y u => f2 p y (by omega))
      obtain ⟨r, y1, y2⟩ := m_findDatum (fu := fu) (L := Lm) hfu l2 m9 m10 hlt (by omega) (show x < 12 by omega) (nS1 x hx).2 (NmO_s nO)
      have hl := (nS1 x hx).2.2.1
      rw [e2, mb3_s, if_neg (show ¬ (1 : Int32) = 0 by decide), y1, mb3_s]
      obtain ⟨A', M', q1, q2, q3⟩ := st_newH (Lc := Lc) (Lm := Lm) (fl := ((nsL (2 + 2 * x) nl).find? (hitB tx (nwB tx le a) (nwE tx le a - nwB tx le a))).isSome) G hfu h nC nO (show 0 < 2 + 2 * x by omega) (by omega) hk f2 l2 l7 m9 m10 rfl
      rcases y2 with ⟨y2, y3⟩ | ⟨i, hi, y2, y3⟩
      · rw [y2, if_pos (show (-1 : Int32) < 0 by decide)]
        rw [y3, show bI (none : Option Nm).isSome = 0 from rfl] at q3
        refine ⟨A', M', q1, q2, ?_⟩
        rcases q3 with q3 | q3
        · exact Or.inl ⟨rfl, q3⟩
        · exact Or.inr q3
      · rw [y2, if_neg (show ¬ sI i < 0 by rw [show (0 : Int32) = sI 0 from rfl, sI_lt (by omega) (by omega)]; omega)]
        rw [y3, show bI (some (nsL (2 + 2 * x) nl)[i]).isSome = 1 from rfl] at q3
        refine ⟨A', M', q1, q2, ?_⟩
        rcases q3 with q3 | q3
        · exact Or.inl ⟨rfl, q3⟩
        · exact Or.inr q3
    · rw [hk] at hk'
      cases hk'
/-! READING: one of several words; a guard -/
theorem ok_k0 : okW [112, 108, 97, 105, 110] 474214394992 0 = true := by decide +kernel
theorem ok_k1 : okW [115, 112, 108, 105, 116] 499984920691 0 = true := by decide +kernel
theorem ok_k2 : okW [104, 105, 115, 116, 111, 114, 121] 34184295202646376 0 = true := by decide +kernel
theorem ok_k3 : okW [100, 101, 101, 112] 1885693284 0 = true := by decide +kernel
theorem ok_k4 : okW [102, 111, 114, 107] 1802661734 0 = true := by decide +kernel
theorem ok_k5 : okW [106, 111, 105, 110] 1852403562 0 = true := by decide +kernel
theorem ok_o0 : okW [101, 113] 29029 0 = true := by decide +kernel
theorem ok_o1 : okW [110, 101] 25966 0 = true := by decide +kernel
theorem ok_o2 : okW [108, 116] 29804 0 = true := by decide +kernel
theorem ok_o3 : okW [103, 101] 25959 0 = true := by decide +kernel
theorem ok_o4 : okW [100, 105, 118] 7760228 0 = true := by decide +kernel
theorem ok_o5 : okW [109, 111, 100] 6582125 0 = true := by decide +kernel
theorem idx_b {tx : Nat → Nat} {w s : Nat} : ∀ (Ws : List (List Nat)) (j : Nat), idxW tx w s Ws j = -1 ∨ ∃ k, k < Ws.length ∧ idxW tx w s Ws j = sI (j + k) := by
  intro Ws
  induction Ws with
  | nil => intro j; exact Or.inl rfl
  | cons W R ih =>
    intro j
    unfold idxW
    by_cases c : isW tx w s W = true
    · rw [if_pos c]
      exact Or.inr ⟨0, by show 0 < R.length + 1; omega, rfl⟩
    · rw [if_neg c]
      rcases ih (j + 1) with h | ⟨k, h1, h2⟩
      · exact Or.inl h
      · exact Or.inr ⟨k + 1, by show k + 1 < R.length + 1; omega, by rw [h2, show j + 1 + k = j + (k + 1) by omega]⟩
theorem m_kind {fu n w e : Nat} {tx : Nat → Nat} {M : mwM} {L : mwL} (hfu : 6100 ≤ fu) (hT : TxM M n tx) (h9 : M 732 9 = sI w) (h10 : M 732 10 = sI e) (hw : w < e) (he : e ≤ n) : ∃ r, DX19_kind fu M L = some (r, M, L) ∧ ((r = -1 ∧ idxW tx w (e - w) wKinds 0 = -1) ∨ ∃ j, j < 6 ∧ r = sI (j + 0) ∧ idxW tx w (e - w) wKinds 0 = sI j) := by
  unfold DX19_kind fX19_kind_b81 wKinds
  simp only [idxW]
  rw [m_is9 (by omega) hT h9 h10 hw he ok_k0, mb3_s]
  by_cases c0 : isW tx w (e - w) [112, 108, 97, 105, 110] = true
  · rw [c0, bI_t, if_neg (show ¬ (1 : Int32) = 0 by decide), if_pos (show true = true from rfl)]
    exact ⟨_, rfl, Or.inr ⟨0, by omega, rfl, rfl⟩⟩
  rw [Bool.not_eq_true] at c0
  rw [c0, bI_f, if_pos (show (0 : Int32) = 0 from rfl), if_neg (show ¬ false = true by decide)]
  rw [m_is9 (by omega) hT h9 h10 hw he ok_k1, mb3_s]
  by_cases c1 : isW tx w (e - w) [115, 112, 108, 105, 116] = true
  · rw [c1, bI_t, if_neg (show ¬ (1 : Int32) = 0 by decide), if_pos (show true = true from rfl)]
    exact ⟨_, rfl, Or.inr ⟨1, by omega, rfl, rfl⟩⟩
  rw [Bool.not_eq_true] at c1
  rw [c1, bI_f, if_pos (show (0 : Int32) = 0 from rfl), if_neg (show ¬ false = true by decide)]
  rw [m_is9 (by omega) hT h9 h10 hw he ok_k2, mb3_s]
  by_cases c2 : isW tx w (e - w) [104, 105, 115, 116, 111, 114, 121] = true
  · rw [c2, bI_t, if_neg (show ¬ (1 : Int32) = 0 by decide), if_pos (show true = true from rfl)]
    exact ⟨_, rfl, Or.inr ⟨2, by omega, rfl, rfl⟩⟩
  rw [Bool.not_eq_true] at c2
  rw [c2, bI_f, if_pos (show (0 : Int32) = 0 from rfl), if_neg (show ¬ false = true by decide)]
  rw [m_is9 (by omega) hT h9 h10 hw he ok_k3, mb3_s]
  by_cases c3 : isW tx w (e - w) [100, 101, 101, 112] = true
  · rw [c3, bI_t, if_neg (show ¬ (1 : Int32) = 0 by decide), if_pos (show true = true from rfl)]
    exact ⟨_, rfl, Or.inr ⟨3, by omega, rfl, rfl⟩⟩
  rw [Bool.not_eq_true] at c3
  rw [c3, bI_f, if_pos (show (0 : Int32) = 0 from rfl), if_neg (show ¬ false = true by decide)]
  rw [m_is9 (by omega) hT h9 h10 hw he ok_k4, mb3_s]
  by_cases c4 : isW tx w (e - w) [102, 111, 114, 107] = true
  · rw [c4, bI_t, if_neg (show ¬ (1 : Int32) = 0 by decide), if_pos (show true = true from rfl)]
    exact ⟨_, rfl, Or.inr ⟨4, by omega, rfl, rfl⟩⟩
  rw [Bool.not_eq_true] at c4
  rw [c4, bI_f, if_pos (show (0 : Int32) = 0 from rfl), if_neg (show ¬ false = true by decide)]
  rw [m_is9 (by omega) hT h9 h10 hw he ok_k5, mb3_s]
  by_cases c5 : isW tx w (e - w) [106, 111, 105, 110] = true
  · rw [c5, bI_t, if_neg (show ¬ (1 : Int32) = 0 by decide), if_pos (show true = true from rfl)]
    exact ⟨_, rfl, Or.inr ⟨5, by omega, rfl, rfl⟩⟩
  rw [Bool.not_eq_true] at c5
  rw [c5, bI_f, if_pos (show (0 : Int32) = 0 from rfl), if_neg (show ¬ false = true by decide)]
  exact ⟨_, rfl, Or.inl ⟨rfl, rfl⟩⟩
theorem m_op {fu n w e : Nat} {tx : Nat → Nat} {M : mwM} {L : mwL} (hfu : 6100 ≤ fu) (hT : TxM M n tx) (h9 : M 732 9 = sI w) (h10 : M 732 10 = sI e) (hw : w < e) (he : e ≤ n) : ∃ r, DX19_op fu M L = some (r, M, L) ∧ ((r = -1 ∧ idxW tx w (e - w) wOps 0 = -1) ∨ ∃ j, j < 6 ∧ r = sI (j + 1) ∧ idxW tx w (e - w) wOps 0 = sI j) := by
  unfold DX19_op fX19_op_b82 wOps
  simp only [idxW]
  rw [m_is9 (by omega) hT h9 h10 hw he ok_o0, mb3_s]
  by_cases c0 : isW tx w (e - w) [101, 113] = true
  · rw [c0, bI_t, if_neg (show ¬ (1 : Int32) = 0 by decide), if_pos (show true = true from rfl)]
    exact ⟨_, rfl, Or.inr ⟨0, by omega, rfl, rfl⟩⟩
  rw [Bool.not_eq_true] at c0
  rw [c0, bI_f, if_pos (show (0 : Int32) = 0 from rfl), if_neg (show ¬ false = true by decide)]
  rw [m_is9 (by omega) hT h9 h10 hw he ok_o1, mb3_s]
  by_cases c1 : isW tx w (e - w) [110, 101] = true
  · rw [c1, bI_t, if_neg (show ¬ (1 : Int32) = 0 by decide), if_pos (show true = true from rfl)]
    exact ⟨_, rfl, Or.inr ⟨1, by omega, rfl, rfl⟩⟩
  rw [Bool.not_eq_true] at c1
  rw [c1, bI_f, if_pos (show (0 : Int32) = 0 from rfl), if_neg (show ¬ false = true by decide)]
  rw [m_is9 (by omega) hT h9 h10 hw he ok_o2, mb3_s]
  by_cases c2 : isW tx w (e - w) [108, 116] = true
  · rw [c2, bI_t, if_neg (show ¬ (1 : Int32) = 0 by decide), if_pos (show true = true from rfl)]
    exact ⟨_, rfl, Or.inr ⟨2, by omega, rfl, rfl⟩⟩
  rw [Bool.not_eq_true] at c2
  rw [c2, bI_f, if_pos (show (0 : Int32) = 0 from rfl), if_neg (show ¬ false = true by decide)]
  rw [m_is9 (by omega) hT h9 h10 hw he ok_o3, mb3_s]
  by_cases c3 : isW tx w (e - w) [103, 101] = true
  · rw [c3, bI_t, if_neg (show ¬ (1 : Int32) = 0 by decide), if_pos (show true = true from rfl)]
    exact ⟨_, rfl, Or.inr ⟨3, by omega, rfl, rfl⟩⟩
  rw [Bool.not_eq_true] at c3
  rw [c3, bI_f, if_pos (show (0 : Int32) = 0 from rfl), if_neg (show ¬ false = true by decide)]
  rw [m_is9 (by omega) hT h9 h10 hw he ok_o4, mb3_s]
  by_cases c4 : isW tx w (e - w) [100, 105, 118] = true
  · rw [c4, bI_t, if_neg (show ¬ (1 : Int32) = 0 by decide), if_pos (show true = true from rfl)]
    exact ⟨_, rfl, Or.inr ⟨4, by omega, rfl, rfl⟩⟩
  rw [Bool.not_eq_true] at c4
  rw [c4, bI_f, if_pos (show (0 : Int32) = 0 from rfl), if_neg (show ¬ false = true by decide)]
  rw [m_is9 (by omega) hT h9 h10 hw he ok_o5, mb3_s]
  by_cases c5 : isW tx w (e - w) [109, 111, 100] = true
  · rw [c5, bI_t, if_neg (show ¬ (1 : Int32) = 0 by decide), if_pos (show true = true from rfl)]
    exact ⟨_, rfl, Or.inr ⟨5, by omega, rfl, rfl⟩⟩
  rw [Bool.not_eq_true] at c5
  rw [c5, bI_f, if_pos (show (0 : Int32) = 0 from rfl), if_neg (show ¬ false = true by decide)]
  exact ⟨_, rfl, Or.inl ⟨rfl, rfl⟩⟩
theorem nf_one {fu a1 : Nat} {A : mwM} {L : mwL} (h : ¬ A 1 12 = 0) : DX8_oneOf fu a1 A L = some (0, A, L) := by
  unfold DX8_oneOf
  rw [nf_fetch h, mb3_s, if_pos rfl]
theorem nf_oper {fu : Nat} {a1 : Int32} {A : mwM} {L : mwL} (h : ¬ A 1 12 = 0) : DX8_otherOperand fu a1 A L = some (0, A, L) := by
  unfold DX8_otherOperand
  rw [nf_fetch h, mb3_s, if_pos rfl]
/-- the kind of a state -/
theorem st_kind {fu n le a : Nat} {A M : mwM} {Lc Lm : mwL} {tx : Nat → Nat} (K : Int32 → mwM → mwL → Option (Int32 × mwM × mwL)) (hfu : 6100 ≤ fu) (h : Ld A M n tx le a) : ∃ A' M', fW A A' ∧ fR M M' ∧ ((∃ j, j < 6 ∧ nwK tx le a = true ∧ DX8_oneOf fu 1 A Lc = some (sI j, A', Lc) ∧ mb3 (DX19_must fu M Lm) (fun r17 M15 L16 => if r17 = 0 then some (0, M15, L16) else mb3 (DX19_kind fu M15 L16) (fun r21 M19 L20 => if 0 ≤ r21 then K r21 M19 L20 else mb3 (DX19_fail fu 1 (M19 732 9) M19 L20) (fun r43 M41 L42 => mzz r43 (some (r43, M41, L42))))) = K (sI j) M' Lm ∧ Ld A' M' n tx le (nwE tx le a)) ∨ (DX8_oneOf fu 1 A Lc = some (0, A', Lc) ∧ mb3 (DX19_must fu M Lm) (fun r17 M15 L16 => if r17 = 0 then some (0, M15, L16) else mb3 (DX19_kind fu M15 L16) (fun r21 M19 L20 => if 0 ≤ r21 then K r21 M19 L20 else mb3 (DX19_fail fu 1 (M19 732 9) M19 L20) (fun r43 M41 L42 => mzz r43 (some (r43, M41, L42))))) = some (0, M', Lm) ∧ Fx A' M')) := by
  obtain ⟨A1, M1, f1, f2, hr⟩ := st_must (fu := fu) (Lc := Lc) (Lm := Lm) hfu h
  unfold DX8_oneOf
  rcases hr with ⟨hk, e1, e2, hL, hH⟩ | ⟨e1, e2, hX⟩
  · obtain ⟨w8, w9, m9, m10, hlt⟩ := id hH
    obtain ⟨l1, l2, l3, l4, l5, l6, l7, l8, l9⟩ := id hL
    have hn := l1.2.1
    obtain ⟨r, x1, x2⟩ := m_kind (fu := fu) (L := Lm) hfu l2 m9 m10 hlt (by omega)
    rw [e1, mb3_s, if_neg (show ¬ (1 : Int32) = 0 by decide), e2, mb3_s, if_neg (show ¬ (1 : Int32) = 0 by decide), c_indexIn wKinds (by omega) l1 w8 w9 (by omega) (by decide) st_kinds, mb3_s, x1, mb3_s]
    rcases x2 with ⟨y1, y2⟩ | ⟨j, hj, y1, y2⟩
    · rw [y1, y2, if_neg (show ¬ (0 : Int32) ≤ -1 by decide), if_neg (show ¬ (0 : Int32) ≤ -1 by decide), c_fail l9, mb2_s, w8, m_fail, mb3_s, m9]
      exact ⟨_, _, fun x y u => by rw [mset_n (by omega), mset_n (by omega), f1 x y u], fm_fr f2, Or.inr ⟨rfl, rfl, Fx_i (k := 1) (by omega) (by omega) (by omega)⟩⟩
    · rw [y1, y2, if_pos (show (0 : Int32) ≤ sI j by rw [show (0 : Int32) = sI 0 from rfl, sI_le (by omega) (by omega)]; omega), if_pos (show (0 : Int32) ≤ sI (j + 0) by rw [show (0 : Int32) = sI 0 from rfl, sI_le (by omega) (by omega)]; omega)]
      exact ⟨A1, M1, f1, f2, Or.inl ⟨j, hj, hk, rfl, rfl, hL⟩⟩
  · rw [e1, mb3_s, if_pos (show (0 : Int32) = 0 from rfl), e2, mb3_s, if_pos (show (0 : Int32) = 0 from rfl)]
    exact ⟨A1, M1, f1, f2, Or.inr ⟨rfl, rfl, hX⟩⟩
/-- the other operand of a guard -/
theorem st_oper {fu n le a x X d j : Nat} {A M : mwM} {Lc Lm : mwL} {tx : Nat → Nat} {nl : List Nm} (hfu : 6100 ≤ fu) (h : Ld A M n tx le a) (hN : NaR A M n X nl) (hx : x < X) : ∃ A' M', fW A A' ∧ fRn M M' ∧ ((∃ o, o ≤ 16128 ∧ o % 256 = 0 ∧ nwK tx le a = true ∧ DX8_otherOperand fu (sI x) A Lc = some (sI o, A', Lc) ∧ mb3 (DX19_must fu M Lm) (fun r27 M25 L26 => (if r27 = 0 then some ((-1), M25, L26) else mb3 (DX19_findDatum fu (sI x) M25 L26) (fun r31 M29 L30 => (if r31 < 0 then mb3 (DX19_isNumber fu M29 L30) (fun r35 M33 L34 => (if r35 = 0 then mb3 (DX19_fail fu 4 (M33 732 9) M33 L34) (fun r41 M39 L40 => (if r41 = 0 then fX19_guard_b143 fu (sI x) ((-1)) M39 L40 else fX19_guard_b143 fu (sI x) 0 M39 L40)) else (if (M33 732 13) < 0 then fX19_guard_b160 fu (sI x) M33 L34 else (if (M33 732 13) ≤ 31 then some (((8192 + (256 * (M33 732 13))) + (8 * sI d)) + sI (j + 1), M33, L34) else fX19_guard_b160 fu (sI x) M33 L34)))) else some (((256 * r31) + (8 * sI d)) + sI (j + 1), M29, L30))))) = some (sI (j + 1 + 8 * d + o), M', Lm) ∧ Ld A' M' n tx le (nwE tx le a)) ∨ (∃ zz, DX8_otherOperand fu (sI x) A Lc = some (zz, A', Lc) ∧ mb3 (DX19_must fu M Lm) (fun r27 M25 L26 => (if r27 = 0 then some ((-1), M25, L26) else mb3 (DX19_findDatum fu (sI x) M25 L26) (fun r31 M29 L30 => (if r31 < 0 then mb3 (DX19_isNumber fu M29 L30) (fun r35 M33 L34 => (if r35 = 0 then mb3 (DX19_fail fu 4 (M33 732 9) M33 L34) (fun r41 M39 L40 => (if r41 = 0 then fX19_guard_b143 fu (sI x) ((-1)) M39 L40 else fX19_guard_b143 fu (sI x) 0 M39 L40)) else (if (M33 732 13) < 0 then fX19_guard_b160 fu (sI x) M33 L34 else (if (M33 732 13) ≤ 31 then some (((8192 + (256 * (M33 732 13))) + (8 * sI d)) + sI (j + 1), M33, L34) else fX19_guard_b160 fu (sI x) M33 L34)))) else some (((256 * r31) + (8 * sI d)) + sI (j + 1), M29, L30))))) = some (-1, M', Lm) ∧ Fx A' M')) := by
  obtain ⟨A1, M1, f1, f2, hr⟩ := st_must (fu := fu) (Lc := Lc) (Lm := Lm) hfu h
  have hN1 : NaR A1 M1 n X nl := NaR_f hN (fun x y u => f1 x y (by omega)) (fun x y u => f2 x y (by omega))
  unfold DX8_otherOperand DX8_dataOf
  rcases hr with ⟨hk, e1, e2, hL, hH⟩ | ⟨e1, e2, hX⟩
  · obtain ⟨w8, w9, m9, m10, hlt⟩ := id hH
    obtain ⟨l1, l2, l3, l4, l5, l6, l7, l8, l9⟩ := id hL
    obtain ⟨nC, nO, nM, nX, nS⟩ := hN1
    have hn := l1.2.1
    have hl := nC.2.1
    obtain ⟨r', x1, x2⟩ := c_findName (fu := fu) (σ := 2 + 2 * x) (L := Lc) hfu l1 w8 w9 (by omega) nC nO (by omega)
    obtain ⟨r, y1, y2⟩ := m_findDatum (fu := fu) (L := Lm) hfu l2 m9 m10 hlt (by omega) (show x < 12 by omega) (nS x hx).2 (NmO_s nO)
    rw [e1, mb3_s, if_neg (show ¬ (1 : Int32) = 0 by decide), mb3_s, e2, mb3_s, if_neg (show ¬ (1 : Int32) = 0 by decide), show (2 : Int32) + 2 * sI x = sI (2 + 2 * x) by rw [show (2 : Int32) * sI x = sI (2 * x) from sI_lml]; exact sI_lad, x1, mb3_s, y1, mb3_s]
    rcases y2 with ⟨y2, y3⟩ | ⟨i, hi, y2, y3⟩
    · rcases x2 with ⟨x2, x3⟩ | ⟨k, hk', x2, x3⟩
      · rw [x2, y2, if_pos (show (-1 : Int32) < 0 by decide), if_pos (show (-1 : Int32) < 0 by decide), c_isNumber (by omega) l1 w8 w9 (by omega) (by omega), mb3_s, m_isNumber hfu l2 m9 m10 hlt (by omega), mb3_s]
        have fM1 : ∀ v : Int32, fRn M (mset M1 732 13 v) := fun v p y u => by rw [mset_n (by omega), f2 p y (by omega)]
        have fA : ∀ k : Int32, fW A (mset (mset A1 1 12 k) 1 13 (sI (nwB tx le a))) := fun k p y u => by rw [mset_n (by omega), mset_n (by omega), f1 p y u]
        have fMl : ∀ v k : Int32, fRn M (mset (mset (mset M1 732 13 v) 732 11 k) 732 12 (sI (nwB tx le a))) := fun v k p y u => by rw [mset_n (by omega), mset_n (by omega), fM1 v p y u]
        generalize hxv : nuV tx (nwB tx le a) (nwE tx le a - nwB tx le a) = xv
        cases hb : nuB tx (nwB tx le a) (nwE tx le a - nwB tx le a) with
        | false =>
          rw [bI_f, if_pos (show (0 : Int32) = 0 from rfl), if_pos (show (0 : Int32) = 0 from rfl), if_neg (show ¬ false = true by decide), c_fail l9, mb2_s, w8, m_fail, mb3_s, if_pos (show (0 : Int32) = 0 from rfl), mset_n (show ¬ (732 = 732 ∧ 9 = 13) by omega), m9]
          unfold fX19_guard_b143
          exact ⟨_, _, fA 4, fMl 0 4, Or.inr ⟨_, rfl, rfl, Fx_i (k := 4) (M := mset M1 732 13 0) (by omega) (by omega) (by omega)⟩⟩
        | true =>
          have cb := c_bounded (fu := fu) (a1 := 0) (a2 := 31) (L := Lc) (by omega) l1 w8 w9 (by omega) (by omega) l9
          rw [hxv, hb] at cb
          rw [bI_t, if_neg (show ¬ (1 : Int32) = 0 by decide), if_neg (show ¬ (1 : Int32) = 0 by decide), if_pos (show true = true from rfl), mset_s, cb]
          have bad : ∃ M', fRn M M' ∧ fX19_guard_b160 fu (sI x) (mset M1 732 13 xv) Lm = some (-1, M', Lm) ∧ Fx (mset (mset A1 1 12 (sI 5)) 1 13 (sI (nwB tx le a))) M' := by
            refine ⟨_, fMl xv 5, ?_, Fx_i (k := 5) (M := mset M1 732 13 xv) (by omega) (by omega) (by omega)⟩
            unfold fX19_guard_b160 fX19_guard_b177
            rw [m_fail, mb3_s, if_pos (show (0 : Int32) = 0 from rfl), mset_n (show ¬ (732 = 732 ∧ 9 = 13) by omega), m9]
          by_cases c1 : xv < 0
          · obtain ⟨M', b2, b4, b5⟩ := bad
            rw [if_neg (fun z => z.2.1 c1), if_pos c1, mb3_s]
            exact ⟨_, M', fA 5, b2, Or.inr ⟨_, rfl, b4, b5⟩⟩
          · rw [if_neg c1]
            by_cases c2 : xv ≤ 31
            · rw [if_pos ⟨rfl, c1, c2⟩, if_pos c2, mb3_s]
              obtain ⟨v, v1, v2, v3⟩ := nu_nat (lo := 0) (hi := 31) hb (by rw [hxv]; exact c1) (by rw [hxv]; exact c2) (by omega) (by omega)
              rw [hxv] at v1
              refine ⟨A1, mset M1 732 13 xv, f1, fM1 xv, Or.inl ⟨8192 + 256 * v, by omega, by omega, hk, ?_, ?_, Ld_n hL (fun p y u => mset_n (by omega))⟩⟩
              · rw [v1, show (256 : Int32) * sI v = sI (256 * v) from sI_lml, show (8192 : Int32) + sI (256 * v) = sI (8192 + 256 * v) from sI_lad]
              · rw [v1, show (256 : Int32) * sI v = sI (256 * v) from sI_lml, show (8192 : Int32) + sI (256 * v) = sI (8192 + 256 * v) from sI_lad, show (8 : Int32) * sI d = sI (8 * d) from sI_lml, sI_add, sI_add, show 8192 + 256 * v + 8 * d + (j + 1) = j + 1 + 8 * d + (8192 + 256 * v) by omega]
            · obtain ⟨M', b2, b4, b5⟩ := bad
              rw [if_neg (fun z => c2 z.2.2), if_neg c2, mb3_s]
              exact ⟨_, M', fA 5, b2, Or.inr ⟨_, rfl, b4, b5⟩⟩
      · rw [y3] at x3
        exact absurd x3 (by simp)
    · rcases x2 with ⟨x2, x3⟩ | ⟨k, hk', x2, x3⟩
      · rw [y3] at x3
        exact absurd x3 (by simp)
      · obtain ⟨a1, a2, a3, a4, a5⟩ := nC.2.2 k hk'
        obtain ⟨_, hl2, z⟩ := (nS x hx).2
        obtain ⟨c1, c2, c3, c4⟩ := z i hi
        rw [y3] at x3
        have ee := Option.some.inj x3
        rw [x2, y2, if_neg (show ¬ sI k < 0 by rw [show (0 : Int32) = sI 0 from rfl, sI_lt (by omega) (by omega)]; omega), if_neg (show ¬ sI i < 0 by rw [show (0 : Int32) = sI 0 from rfl, sI_lt (by omega) (by omega)]; omega), mck_s (show k < 600 by omega) (by omega), sI_nn (by omega), a5, ← ee, c4]
        refine ⟨A1, M1, f1, fun p y u => f2 p y (by omega), Or.inl ⟨256 * i, by omega, by omega, hk, ?_, ?_, hL⟩⟩
        · rw [show (256 : Int32) * sI i = sI (256 * i) from sI_lml]
        · rw [show (256 : Int32) * sI i = sI (256 * i) from sI_lml, show (8 : Int32) * sI d = sI (8 * d) from sI_lml, sI_add, sI_add, show 256 * i + 8 * d + (j + 1) = j + 1 + 8 * d + 256 * i by omega]
  · rw [e1, mb3_s, if_pos (show (0 : Int32) = 0 from rfl), e2, mb3_s, if_pos (show (0 : Int32) = 0 from rfl)]
    exact ⟨A1, M1, f1, fun p y u => f2 p y (by omega), Or.inr ⟨_, rfl, rfl, hX⟩⟩
/-! READING: a guard, and the end of the line -/
noncomputable def gdC (fu : Nat) (x : Int32) (Kc : Int32 → mwM → mwL → Option (mwM × mwL)) (A : mwM) (L : mwL) : Option (mwM × mwL) :=
  mb3 (DX8_optional fu 2 A L) (fun r30 M28 L29 => (if r30 = 0 then mb2 (DX8_endLine fu M28 L29) (fun M1 L2 => Kc 0 M1 L2) else mb3 (DX8_dataOf fu x M28 L29) (fun r34 M32 L33 => mb3 (DX8_toldName fu r34 5 M32 L33) (fun r37 M35 L36 => mb3 (DX8_oneOf fu 3 M35 L36) (fun r40 M38 L39 => mlet (r40 + 1) (fun x41 => mb3 (DX8_otherOperand fu x M38 L39) (fun r44 M42 L43 => mlet ((x41 + (8 * r37)) + r44) (fun x45 => mb2 (DX8_endLine fu M42 L43) (fun M1 L2 => Kc x45 M1 L2)))))))))
noncomputable def gdM (fu : Nat) (x : Int32) (G : Int32 → mwM → mwL → Option (Int32 × mwM × mwL)) (M : mwM) (L : mwL) : Option (Int32 × mwM × mwL) :=
  mb3 (DX19_guard fu x M L) (fun r18 M16 L17 => (if r18 < 0 then some (0, M16, L17) else mb3 (DX19_end fu M16 L17) (fun r22 M20 L21 => (if r22 = 0 then some (0, M20, L21) else G r18 M20 L21))))
theorem c_opt {fu n le a i : Nat} {W : List Nat} {A : mwM} {L : mwL} {tx : Nat → Nat} (hfu : 6100 ≤ fu) (hC : TxC A n tx) (h5 : A 1 5 = sI a) (h6 : A 1 6 = sI le) (ha : a ≤ le) (hle : le ≤ n) (h12 : A 1 12 = 0) (hc : chB i 0 W = true) (hl : W.length = sln i) (hl2 : sln i ≤ 100) : ∃ A', fW A A' ∧ A' 1 12 = 0 ∧ (nwK tx le a = false → DX8_optional fu i A L = some (0, A', L) ∧ A' 1 5 = sI (nwB tx le a)) ∧ (nwK tx le a = true → A' 1 5 = sI (nwE tx le a) ∧ A' 1 8 = sI (nwB tx le a) ∧ A' 1 9 = sI (nwE tx le a - nwB tx le a)) ∧ (nwK tx le a = true → isW tx (nwB tx le a) (nwE tx le a - nwB tx le a) W = true → DX8_optional fu i A L = some (1, A', L)) ∧ (nwK tx le a = true → isW tx (nwB tx le a) (nwE tx le a - nwB tx le a) W = false → DX8_optional fu i A L = some (0, flA A' (sI 2) (sI (nwB tx le a)), L)) := by
  have hn := hC.2.1
  obtain ⟨A1, e1, e2, e3, e4⟩ := c_next (fu := fu) (L := L) hfu hC h5 h6 ha hle
  obtain ⟨b1, b2, b3, b4, b5, b6, b7, _⟩ := nw_b (tx := tx) ha
  have k12 : A1 1 12 = 0 := by rw [e4 _ _ (by omega)]; exact h12
  have hC1 : TxC A1 n tx := TxC_f hC (fun x y u => e4 x y (by omega))
  unfold DX8_optional
  rw [if_pos h12, e1, mb2_s]
  refine ⟨A1, fun x y u => e4 x y (by omega), k12, fun hk => ?_, fun hk => e2 hk, fun hk hi => ?_, fun hk hi => ?_⟩
  · obtain ⟨q1, q2, q3⟩ := e3 hk
    refine ⟨?_, q1⟩
    unfold fX8_optional_b37 fX8_optional_b55 fX8_optional_b56
    rw [q3, if_pos (show sI 0 ≤ 0 by decide), if_pos (show sI 0 ≤ 0 by decide)]
    rfl
  · obtain ⟨q1, q2, q3⟩ := e2 hk
    have hlt := b5 hk
    have nz : ¬ sI (nwE tx le a - nwB tx le a) ≤ 0 := by rw [show (0 : Int32) = sI 0 from rfl, sI_le (by omega) (by omega)]; omega
    rw [q3, if_neg nz, c_isWord (by omega) hC1 q2 q3 (by omega) hl hl2 hc, mb3_s, hi]
    unfold fX8_optional_b37 fX8_optional_b55 fX8_optional_b56
    rw [bI_t, if_neg (show ¬ (1 : Int32) = 0 by decide), q3, if_neg nz, if_pos k12]
    rfl
  · obtain ⟨q1, q2, q3⟩ := e2 hk
    have hlt := b5 hk
    have nz : ¬ sI (nwE tx le a - nwB tx le a) ≤ 0 := by rw [show (0 : Int32) = sI 0 from rfl, sI_le (by omega) (by omega)]; omega
    rw [q3, if_neg nz, c_isWord (by omega) hC1 q2 q3 (by omega) hl hl2 hc, mb3_s, hi]
    unfold fX8_optional_b37 fX8_optional_b55 fX8_optional_b56
    rw [bI_f, if_pos (show (0 : Int32) = 0 from rfl), c_fail k12, mb2_s, q2, mset_n (show ¬ (1 = 1 ∧ 9 = 13) by omega), mset_n (show ¬ (1 = 1 ∧ 9 = 12) by omega), q3, if_neg nz, if_neg (by
      rw [mset_n (by omega), mset_s]
      decide)]
    rfl
/-- both at the end of a line -/
theorem st_fin {fu n le a : Nat} {A A0 M M0 : mwM} {Lc Lm : mwL} {tx : Nat → Nat} {g : Nat} (Kc : Int32 → mwM → mwL → Option (mwM × mwL)) (G : Int32 → mwM → mwL → Option (Int32 × mwM × mwL)) (hfu : 6100 ≤ fu) (h : Ld A M n tx le a) (fa : fW A0 A) (fm : fRn M0 M) (hg : g < 2000000000) : ∃ A' M', fW A0 A' ∧ fRn M0 M' ∧ ((∃ a', mb2 (DX8_endLine fu A Lc) (fun M1 L2 => Kc (sI g) M1 L2) = Kc (sI g) A' Lc ∧ (if sI g < 0 then some (0, M, Lm) else mb3 (DX19_end fu M Lm) (fun r22 M20 L21 => (if r22 = 0 then some (0, M20, L21) else G (sI g) M20 L21))) = G (sI g) M' Lm ∧ a ≤ a' ∧ Ld A' M' n tx le a') ∨ (mb2 (DX8_endLine fu A Lc) (fun M1 L2 => Kc (sI g) M1 L2) = Kc (sI g) A' Lc ∧ (if sI g < 0 then some (0, M, Lm) else mb3 (DX19_end fu M Lm) (fun r22 M20 L21 => (if r22 = 0 then some (0, M20, L21) else G (sI g) M20 L21))) = some (0, M', Lm) ∧ Fx A' M')) := by
  obtain ⟨A1, M1, f1, f2, hr⟩ := st_eol (fu := fu) (Lc := Lc) (Lm := Lm) hfu h
  have ng : ¬ sI g < 0 := by rw [show (0 : Int32) = sI 0 from rfl, sI_lt hg (by omega)]; omega
  have ha := h.2.2.2.2.2.2.2.1
  have hb := (nw_b (tx := tx) ha).1
  rw [if_neg ng]
  refine ⟨A1, M1, fun x y u => by rw [f1 x y u, fa x y u], fun x y u => by rw [f2 x y (by omega), fm x y u], ?_⟩
  rcases hr with ⟨hk, e1, e2, hL⟩ | ⟨e1, e2, hX⟩
  · rw [e1, mb2_s, e2, mb3_s, if_neg (show ¬ (1 : Int32) = 0 by decide)]
    exact Or.inl ⟨_, rfl, rfl, hb, hL⟩
  · rw [e1, mb2_s, e2, mb3_s, if_pos (show (0 : Int32) = 0 from rfl)]
    exact Or.inr ⟨rfl, rfl, hX⟩
/-- where it has failed already -/
theorem nf_fin {fu : Nat} {A M M0 A0 : mwM} {Lc Lm : mwL} {g : Int32} (Kc : Int32 → mwM → mwL → Option (mwM × mwL)) (G : Int32 → mwM → mwL → Option (Int32 × mwM × mwL)) (hX : Fx A M) (fa : fW A0 A) (fm : fRn M0 M) : ∃ A' M', fW A0 A' ∧ fRn M0 M' ∧ mb2 (DX8_endLine fu A Lc) (fun M1 L2 => Kc g M1 L2) = Kc g A' Lc ∧ (if (-1 : Int32) < 0 then some (0, M, Lm) else mb3 (DX19_end fu M Lm) (fun r22 M20 L21 => (if r22 = 0 then some (0, M20, L21) else G (-1) M20 L21))) = some (0, M', Lm) ∧ Fx A' M' := by
  refine ⟨A, M, fa, fm, ?_, if_pos (by decide), hX⟩
  rw [nf_end (Fx_n hX), mb2_s]
theorem st_guard {fu n le a x X : Nat} {A M : mwM} {Lc Lm : mwL} {tx : Nat → Nat} {nl : List Nm} (Kc : Int32 → mwM → mwL → Option (mwM × mwL)) (G : Int32 → mwM → mwL → Option (Int32 × mwM × mwL)) (hfu : 6100 ≤ fu) (h : Ld A M n tx le a) (hN : NaR A M n X nl) (hx : x < X) : ∃ A' M', fW A A' ∧ fRn M M' ∧ ((∃ g a', g < 16384 ∧ (g = 0 ∨ (1 ≤ g % 8 ∧ g % 8 ≤ 6)) ∧ gdC fu (sI x) Kc A Lc = Kc (sI g) A' Lc ∧ gdM fu (sI x) G M Lm = G (sI g) M' Lm ∧ a ≤ a' ∧ Ld A' M' n tx le a') ∨ (∃ g, gdC fu (sI x) Kc A Lc = Kc g A' Lc ∧ gdM fu (sI x) G M Lm = some (0, M', Lm) ∧ Fx A' M')) := by
  obtain ⟨hT, hM, h6, h7, hle, h5, h6', ha, h12⟩ := id h
  have hn := hT.2.1
  obtain ⟨b1, b2, b3, b4, b5, b6, b7, _⟩ := nw_b (tx := tx) ha
  obtain ⟨A1, c1, c2, c3, c4, c5, c6⟩ := c_opt (fu := fu) (i := 2) (W := [105, 102]) (L := Lc) hfu hT h5 h6 ha hle h12 ch_if rfl (by decide)
  obtain ⟨M1, m1, m2, m3, m4⟩ := m_next (fu := fu) (L := Lm) hfu hM h6' h7 ha hle
  have hC1 : TxC A1 n tx := TxC_f hT (fun p y u => c1 p y (by omega))
  have hM1 : TxM M1 n tx := TxM_f hM (fun p y u => m4 p y (by omega))
  have q6 : A1 1 6 = sI le := by rw [c1 _ _ (by omega)]; exact h6
  have q7 : M1 732 7 = sI le := by rw [m4 _ _ (by omega)]; exact h7
  have fm1 : fRn M M1 := fun p y u => m4 p y (by omega)
  unfold gdC gdM DX19_guard
  rw [m1, mb3_s]
  cases hk : nwK tx le a with
  | false =>
    obtain ⟨k1, k2⟩ := c3 hk
    have hL : Ld A1 M1 n tx le (nwB tx le a) := ⟨hC1, hM1, q6, q7, hle, k2, m3 hk, b2, c2⟩
    rw [k1, mb3_s, if_pos (show (0 : Int32) = 0 from rfl), bI_f, if_pos (show (0 : Int32) = 0 from rfl), mb3_s]
    obtain ⟨A', M', g1, g2, hr⟩ := st_fin (g := 0) (Lc := Lc) (Lm := Lm) Kc G hfu hL c1 fm1 (by omega)
    refine ⟨A', M', g1, g2, ?_⟩
    rcases hr with ⟨a', r1, r2, r3, r4⟩ | ⟨r1, r2, r3⟩
    · exact Or.inl ⟨0, a', by omega, Or.inl rfl, r1, r2, by omega, r4⟩
    · exact Or.inr ⟨_, r1, r2, r3⟩
  | true =>
    obtain ⟨w5, w8, w9⟩ := c4 hk
    obtain ⟨m6, m9, m10⟩ := m2 hk
    have hlt := b5 hk
    rw [bI_t, if_neg (show ¬ (1 : Int32) = 0 by decide), m_is9 (by omega) hM1 m9 m10 hlt (by omega) ok_if, mb3_s]
    cases hi : isW tx (nwB tx le a) (nwE tx le a - nwB tx le a) [105, 102] with
    | false =>
      rw [c6 hk hi, mb3_s, if_pos (show (0 : Int32) = 0 from rfl), bI_f, if_pos (show (0 : Int32) = 0 from rfl), m_fail, mb3_s, if_pos (show (0 : Int32) = 0 from rfl), m9]
      unfold fX19_guard_b37
      rw [mb3_s]
      have hX : Fx (flA A1 (sI 2) (sI (nwB tx le a))) (flM M1 (sI 2) (sI (nwB tx le a))) := Fx_i (by omega) (by omega) (by omega)
      obtain ⟨A', M', g1, g2, r1, r2, r3⟩ := nf_fin (fu := fu) (Lc := Lc) (Lm := Lm) (g := 0) (A0 := A) (M0 := M) Kc G hX (fun p y u => by
        show mset (mset A1 1 12 (sI 2)) 1 13 (sI (nwB tx le a)) p y = _
        rw [mset_n (by omega), mset_n (by omega), c1 p y u]) (fun p y u => by
        show mset (mset M1 732 11 (sI 2)) 732 12 (sI (nwB tx le a)) p y = _
        rw [mset_n (by omega), mset_n (by omega), fm1 p y u])
      exact ⟨A', M', g1, g2, Or.inr ⟨_, r1, r2, r3⟩⟩
    | true =>
      have hL : Ld A1 M1 n tx le (nwE tx le a) := ⟨hC1, hM1, q6, q7, hle, w5, m6, b4, c2⟩
      have hN1 : NaR A1 M1 n X nl := NaR_f hN (fun p y u => c1 p y (by omega)) (fun p y u => m4 p y (by omega))
      have nX := hN.2.2.2.1
      rw [c5 hk hi, mb3_s, if_neg (show ¬ (1 : Int32) = 0 by decide), bI_t, if_neg (show ¬ (1 : Int32) = 0 by decide)]
      unfold DX8_dataOf
      rw [mb3_s, show (2 : Int32) + 2 * sI x = sI (2 + 2 * x) by rw [show (2 : Int32) * sI x = sI (2 * x) from sI_lml]; exact sI_lad]
      obtain ⟨A2, M2, f1, f2, hr⟩ := st_dat (fu := fu) (Lc := Lc) (Lm := Lm) hfu hL hN1 hx
      have a2 : fW A A2 := fun p y u => by rw [f1 p y u, c1 p y u]
      have m2' : fRn M M2 := fun p y u => by rw [f2 p y (by omega), fm1 p y u]
      rcases hr with ⟨d, hd, hk2, e1, e2, hL2, _⟩ | ⟨e1, e2, hX⟩
      · have hN2 : NaR A2 M2 n X nl := NaR_f hN1 (fun p y u => f1 p y (by omega)) (fun p y u => f2 p y (by omega))
        have hdl := (hN2.2.2.2.2 x hx).2.2.1
        have o2 := (nw_b (tx := tx) hL.2.2.2.2.2.2.2.1)
        have o2' := o2.2.2.2.2.1 hk2
        rw [e1, mb3_s, e2, mb3_s, if_neg (show ¬ sI d < 0 by rw [show (0 : Int32) = sI 0 from rfl, sI_lt (by omega) (by omega)]; omega)]
        unfold DX8_oneOf
        obtain ⟨A3, M3, f3, f4, hr3⟩ := st_must (fu := fu) (Lc := Lc) (Lm := Lm) hfu hL2
        have a3 : fW A A3 := fun p y u => by rw [f3 p y u, a2 p y u]
        have m3' : fRn M M3 := fun p y u => by rw [f4 p y (by omega), m2' p y u]
        rcases hr3 with ⟨hk3, e3, e4, hL3, hH3⟩ | ⟨e3, e4, hX⟩
        · obtain ⟨z8, z9, n9, n10, hlt3⟩ := id hH3
          obtain ⟨l1, l2, l3, l4, l5, l6, l7, l8, l9⟩ := id hL3
          have o3 := (nw_b (tx := tx) hL2.2.2.2.2.2.2.2.1)
          obtain ⟨r, x1, x2⟩ := m_op (fu := fu) (L := Lm) hfu l2 n9 n10 hlt3 (by omega)
          rw [e3, mb3_s, if_neg (show ¬ (1 : Int32) = 0 by decide), e4, mb3_s, if_neg (show ¬ (1 : Int32) = 0 by decide), c_indexIn wOps (by omega) l1 z8 z9 (by omega) (by decide) st_ops, mb3_s, x1, mb3_s]
          rcases x2 with ⟨y1, y2⟩ | ⟨j, hj, y1, y2⟩
          · rw [y1, y2, if_neg (show ¬ (0 : Int32) ≤ -1 by decide), if_neg (show ¬ (0 : Int32) ≤ -1 by decide), c_fail l9, mb2_s, mb3_s, mlet_e, z8, m_fail, mb3_s, if_pos (show (0 : Int32) = 0 from rfl), n9]
            have hX : Fx (mset (mset A3 1 12 1) 1 13 (sI (nwB tx le (nwE tx le (nwE tx le a))))) (mset (mset M3 732 11 1) 732 12 (sI (nwB tx le (nwE tx le (nwE tx le a))))) := Fx_i (k := 1) (by omega) (by omega) (by omega)
            unfold fX19_guard_b83
            rw [nf_oper (Fx_n hX), mb3_s, mlet_e, mb3_s]
            obtain ⟨A', M', g1, g2, r1, r2, r3⟩ := nf_fin (fu := fu) (Lc := Lc) (Lm := Lm) (g := 0 + 1 + 8 * sI d + 0) (A0 := A) (M0 := M) Kc G hX (fun p y u => by
              rw [mset_n (by omega), mset_n (by omega), a3 p y u]) (fun p y u => by
              rw [mset_n (by omega), mset_n (by omega), m3' p y u])
            exact ⟨A', M', g1, g2, Or.inr ⟨_, r1, r2, r3⟩⟩
          · have hN3 : NaR A3 M3 n X nl := NaR_f hN2 (fun p y u => f3 p y (by omega)) (fun p y u => f4 p y (by omega))
            rw [y1, y2, if_pos (show (0 : Int32) ≤ sI j by rw [show (0 : Int32) = sI 0 from rfl, sI_le (by omega) (by omega)]; omega), if_pos (show (0 : Int32) ≤ sI (j + 1) by rw [show (0 : Int32) = sI 0 from rfl, sI_le (by omega) (by omega)]; omega), mb3_s, mlet_e]
            obtain ⟨A4, M4, f5, f6, hr4⟩ := st_oper (fu := fu) (d := d) (j := j) (Lc := Lc) (Lm := Lm) hfu hL3 hN3 hx
            have a4 : fW A A4 := fun p y u => by rw [f5 p y u, a3 p y u]
            have m4' : fRn M M4 := fun p y u => by rw [f6 p y u, m3' p y u]
            rcases hr4 with ⟨o, ho1, ho2, hk4, e5, e6, hL4⟩ | ⟨zz, e5, e6, hX⟩
            · rw [e5, mb3_s, mlet_e, e6, mb3_s]
              have o4 := (nw_b (tx := tx) l8)
              rw [show sI j + 1 + 8 * sI d + sI o = sI (j + 1 + 8 * d + o) by rw [show (8 : Int32) * sI d = sI (8 * d) from sI_lml, sI_1, sI_add, sI_add]]
              obtain ⟨A', M', g1, g2, hr⟩ := st_fin (g := j + 1 + 8 * d + o) (Lc := Lc) (Lm := Lm) Kc G hfu hL4 a4 m4' (by omega)
              refine ⟨A', M', g1, g2, ?_⟩
              rcases hr with ⟨a', r1, r2, r3, r4⟩ | ⟨r1, r2, r3⟩
              · exact Or.inl ⟨_, a', by omega, Or.inr (by omega), r1, r2, by omega, r4⟩
              · exact Or.inr ⟨_, r1, r2, r3⟩
            · rw [e5, mb3_s, mlet_e, e6, mb3_s]
              obtain ⟨A', M', g1, g2, r1, r2, r3⟩ := nf_fin (fu := fu) (Lc := Lc) (Lm := Lm) (g := sI j + 1 + 8 * sI d + zz) (A0 := A) (M0 := M) Kc G hX a4 m4'
              exact ⟨A', M', g1, g2, Or.inr ⟨_, r1, r2, r3⟩⟩
        · rw [e3, mb3_s, if_pos (show (0 : Int32) = 0 from rfl), mb3_s, mlet_e, e4, mb3_s, if_pos (show (0 : Int32) = 0 from rfl), nf_oper (Fx_n hX), mb3_s, mlet_e]
          unfold fX19_guard_b55
          rw [mb3_s]
          obtain ⟨A', M', g1, g2, r1, r2, r3⟩ := nf_fin (fu := fu) (Lc := Lc) (Lm := Lm) (g := 0 + 1 + 8 * sI d + 0) (A0 := A) (M0 := M) Kc G hX a3 m3'
          exact ⟨A', M', g1, g2, Or.inr ⟨_, r1, r2, r3⟩⟩
      · rw [e1, mb3_s, e2, mb3_s, if_pos (show (-1 : Int32) < 0 by decide), nf_one (Fx_n hX), mb3_s, mlet_e, nf_oper (Fx_n hX), mb3_s, mlet_e]
        unfold fX19_guard_b55
        rw [mb3_s]
        obtain ⟨A', M', g1, g2, r1, r2, r3⟩ := nf_fin (fu := fu) (Lc := Lc) (Lm := Lm) (g := 0 + 1 + 8 * 0 + 0) (A0 := A) (M0 := M) Kc G hX a2 m2'
        exact ⟨A', M', g1, g2, Or.inr ⟨_, r1, r2, r3⟩⟩
/-! READING: what both have read so far -/
def PrT (A M : mwM) (T C X : Nat) (ow : Nat → Nat) : Prop := A 5 3 = sI T ∧ M 732 24 = sI T ∧ T ≤ 12 ∧ (∀ i, i < T → A 8 i = sI (ow i) ∧ M 742 i = sI (ow i) ∧ ow i < C ∧ (∃ pr pe ou wk, A 7 i = sI pr ∧ M 743 i = sI pr ∧ pr ≤ 255 ∧ A 9 i = sI pe ∧ M 744 i = sI pe ∧ 500 ≤ pe ∧ pe ≤ 20000 ∧ A 11 i = sI ou ∧ M 745 i = sI ou ∧ ou < pe ∧ A 10 i = sI wk ∧ M 746 i = sI wk ∧ 1 ≤ wk ∧ wk ≤ 1000) ∧ (∀ a, 12 ≤ a → a ≤ 17 → A a i = 0) ∧ M 748 i = 0 ∧ ((A 283 i = -1 ∧ M 747 i = -1) ∨ ∃ x, x < X ∧ A 283 i = sI x ∧ M 747 i = sI x)) ∧ ∀ i, T ≤ i → i < 12 → A 283 i = -1
def ChP (A M : mwM) (Lc Lm : mwL) (x ns nd : Nat) : Prop := A (293 + 36 * x) 11 = 0 ∧ A (293 + 36 * x) 13 = 0 ∧ M 751 x = 0 ∧ M 752 x = 0 ∧ Lm (964 + 53 * x) 28 = 0 ∧ ∃ c va D xx, Cv c ∧ ReC (293 + 36 * x) A Lc c b00 va D xx ∧ ReM (964 + 53 * x) M Lm c b00 va D xx ∧ ClM (964 + 53 * x) M Lm c ∧ c 0 0 = ns ∧ c 0 4 = nd ∧ M 750 x = sI (c 0 1) ∧ ∀ s, s ≤ c 0 0 → c 13 s = 0 ∧ c 14 s = 0
def PrX (A M : mwM) (Lc Lm : mwL) (X T : Nat) (ow ct : Nat → Nat) (nl : List Nm) : Prop := A 3 14 = sI X ∧ M 732 33 = sI X ∧ X ≤ 12 ∧ (∀ x, x < X → M 749 x = sI (ct x) ∧ ct x < T ∧ A (293 + 36 * x) 5 = sI (ow (ct x)) ∧ ChP A M Lc Lm x (nsL (1 + 2 * x) nl).length (nsL (2 + 2 * x) nl).length) ∧ ∀ x, X ≤ x → x < 12 → A (293 + 36 * x) 5 = -1
def PrB (M : mwM) (Lc Lm : mwL) : Prop := ∀ x, x < 12 → M (964 + 53 * x + 1) 0 = 0 ∧ M (964 + 53 * x + 2) 0 = 0 ∧ M (964 + 53 * x + 3) 0 = 0 ∧ ∀ y, 32 ≤ y → Lc (293 + 36 * x + 34) y = Lm (964 + 53 * x + 21) y
def PrS (A M : mwM) (S X n : Nat) (ow ct : Nat → Nat) (sg : Nat → Nat → Nat) (tu : Nat → Bool) : Prop := A 61 10 = sI S ∧ M 732 45 = sI S ∧ S ≤ 40 ∧ ∀ s, s < S → (A 63 s = sI (sg 0 s) ∧ M 761 s = sI (sg 0 s) ∧ 1 ≤ sg 0 s ∧ sg 0 s ≤ 64) ∧ (A 66 s = sI (sg 1 s) ∧ M 764 s = sI (sg 1 s) ∧ 500 ≤ sg 1 s ∧ sg 1 s ≤ 20000) ∧ (A 64 s = sI (sg 2 s) ∧ M 762 s = sI (sg 2 s) ∧ sg 2 s < X) ∧ (A 65 s = sI (sg 3 s) ∧ M 763 s = sI (sg 3 s) ∧ sg 3 s < 32) ∧ (A 67 s = bI (tu s) ∧ M 765 s = bI (tu s)) ∧ A 68 s = sI (ow (ct (sg 2 s))) ∧ A 69 s = sI (sg 4 s) ∧ M 760 s = sI (sg 4 s) ∧ sg 4 s ≤ n
def PrW (A M : mwM) (Lm : mwL) (W S : Nat) (sg wt : Nat → Nat → Nat) : Prop := WtR A M Lm W S (wt 0) (wt 1) ∧ RTr A M W 0 ∧ (∀ w, w < W → A 143 w = sI (3 * sg 1 (wt 0 w))) ∧ ∀ j, W < j → j ≤ 30 → M 906 j = 0 ∧ M 916 j = 0
def NmB (C T X S : Nat) (nl : List Nm) : Prop := (nsL 0 nl).length = C + T + X + S ∧ ∀ q, q ∈ nl → q.1 ≤ 2 * X ∧ (q.1 = 0 → (q.2.2.2.1 = 0 ∧ q.2.2.2.2 < C) ∨ (q.2.2.2.1 = 1 ∧ q.2.2.2.2 < T) ∨ (q.2.2.2.1 = 2 ∧ q.2.2.2.2 < X) ∨ (q.2.2.2.1 = 3 ∧ q.2.2.2.2 < S))
def PrK (A M : mwM) (K : Nat) (ky : Nat → Nat → Nat) : Prop := KyC A K (ky 0) (ky 1) (ky 2) ∧ KyM M K (ky 0) (ky 1) (ky 2) ∧ ∀ i, i < K → 1 ≤ ky 2 i
def PR (A M : mwM) (Lc Lm : mwL) (n C T X S K R W : Nat) (nl : List Nm) (ow ct : Nat → Nat) (sg : Nat → Nat → Nat) (tu : Nat → Bool) (ky rd wt : Nat → Nat → Nat) : Prop :=
  (A 3 13 = sI C ∧ M 732 19 = sI C ∧ C ≤ 6) ∧ PrT A M T C X ow ∧ PrX A M Lc Lm X T ow ct nl ∧ PrB M Lc Lm ∧ PrS A M S X n ow ct sg tu ∧ PrK A M K ky ∧ RdR A M Lc Lm R S X (rd 0) (rd 1) (rd 2) (rd 3) ∧ PrW A M Lm W S sg wt ∧ NaR A M n X nl ∧ NmB C T X S nl
theorem PrT_f {A A' M M' : mwM} {T C X : Nat} {ow : Nat → Nat} (h : PrT A M T C X ow) (hA : ∀ a y, (a = 5 ∧ y = 3) ∨ (7 ≤ a ∧ a ≤ 17) ∨ a = 283 → A' a y = A a y) (hM : ∀ a y, (a = 732 ∧ y = 24) ∨ (742 ≤ a ∧ a ≤ 748 ∧ y < T) → M' a y = M a y) : PrT A' M' T C X ow := by
  obtain ⟨h1, h2, h3, h4, h5⟩ := h
  refine ⟨by rw [hA _ _ (by omega)]; exact h1, by rw [hM _ _ (by omega)]; exact h2, h3, fun i hi => ?_, fun i i1 i2 => by rw [hA _ _ (by omega)]; exact h5 i i1 i2⟩
  obtain ⟨g1, g2, g3, ⟨pr, pe, ou, wk, q1, q2, q3, q4, q5, q6, q7, q8, q9, q10, q11, q12, q13, q14⟩, g5, g6, g7⟩ := h4 i hi
  refine ⟨by rw [hA _ _ (by omega)]; exact g1, by rw [hM _ _ (by omega)]; exact g2, g3, ⟨pr, pe, ou, wk, by rw [hA _ _ (by omega)]; exact q1, by rw [hM _ _ (by omega)]; exact q2, q3, by rw [hA _ _ (by omega)]; exact q4, by rw [hM _ _ (by omega)]; exact q5, q6, q7, by rw [hA _ _ (by omega)]; exact q8, by rw [hM _ _ (by omega)]; exact q9, q10, by rw [hA _ _ (by omega)]; exact q11, by rw [hM _ _ (by omega)]; exact q12, q13, q14⟩, fun a a1 a2 => by rw [hA _ _ (by omega)]; exact g5 a a1 a2, by rw [hM _ _ (by omega)]; exact g6, ?_⟩
  rw [hA _ _ (by omega), hM _ _ (by omega)]
  exact g7
theorem ChP_f {A A' M M' : mwM} {Lc Lc' Lm Lm' : mwL} {x ns nd : Nat} (h : ChP A M Lc Lm x ns nd) (hA : ∀ a y, 293 + 36 * x ≤ a → a ≤ 293 + 36 * x + 35 → A' a y = A a y) (hM : ∀ a y, (750 ≤ a ∧ a ≤ 752 ∧ y = x) ∨ (964 + 53 * x ≤ a ∧ a ≤ 964 + 53 * x + 52) → M' a y = M a y) (hC : Lc' (293 + 36 * x + 34) = Lc (293 + 36 * x + 34)) (hL : ∀ a, 964 + 53 * x ≤ a → a ≤ 964 + 53 * x + 52 → Lm' a = Lm a) : ChP A' M' Lc' Lm' x ns nd := by
  obtain ⟨h1, h2, h3, h4, h5, c, va, D, xx, g1, g2, g3, g4, g5, g6, g7, g8⟩ := h
  exact ⟨by rw [hA _ _ (by omega) (by omega)]; exact h1, by rw [hA _ _ (by omega) (by omega)]; exact h2, by rw [hM _ _ (by omega)]; exact h3, by rw [hM _ _ (by omega)]; exact h4, by rw [hL _ (by omega) (by omega)]; exact h5, c, va, D, xx, g1, ReC_f g2 (fun a y a1 a2 _ _ _ _ => hA a y (by omega) (by omega)) hC, ReM_f g3 (fun a y a1 a2 _ => hM a y (by omega)) (fun a a1 a2 => hL a (by omega) (by omega)), ClM_f g4 (fun a y a1 a2 _ => hM a y (by omega)) (fun a a1 a2 => hL a (by omega) (by omega)), g5, g6, by rw [hM _ _ (by omega)]; exact g7, g8⟩
theorem PrX_f {A A' M M' : mwM} {Lc Lc' Lm Lm' : mwL} {X T : Nat} {ow ct : Nat → Nat} {nl : List Nm} (h : PrX A M Lc Lm X T ow ct nl) (hA : ∀ a y, (a = 3 ∧ y = 14) ∨ (293 ≤ a ∧ a ≤ 724) → A' a y = A a y) (hM : ∀ a y, (a = 732 ∧ y = 33) ∨ (749 ≤ a ∧ a ≤ 752) ∨ 964 ≤ a → M' a y = M a y) (hC : ∀ a, 293 ≤ a → a ≤ 724 → Lc' a = Lc a) (hL : ∀ a, 964 ≤ a → Lm' a = Lm a) : PrX A' M' Lc' Lm' X T ow ct nl := by
  obtain ⟨h1, h2, h3, h4, h5⟩ := h
  refine ⟨by rw [hA _ _ (by omega)]; exact h1, by rw [hM _ _ (by omega)]; exact h2, h3, fun x hx => ?_, fun x x1 x2 => by rw [hA _ _ (by omega)]; exact h5 x x1 x2⟩
  obtain ⟨g1, g2, g3, g4⟩ := h4 x hx
  exact ⟨by rw [hM _ _ (by omega)]; exact g1, g2, by rw [hA _ _ (by omega)]; exact g3, ChP_f g4 (fun a y a1 a2 => hA a y (by omega)) (fun a y u => hM a y (by omega)) (hC _ (by omega) (by omega)) (fun a a1 a2 => hL a (by omega))⟩
theorem PrB_f {M M' : mwM} {Lc Lc' Lm Lm' : mwL} (h : PrB M Lc Lm) (hM : ∀ a, 964 ≤ a → (a - 964) % 53 = 1 ∨ (a - 964) % 53 = 2 ∨ (a - 964) % 53 = 3 → M' a 0 = M a 0) (hC : ∀ a y, 32 ≤ y → 293 ≤ a → a ≤ 724 → Lc' a y = Lc a y) (hL : ∀ a y, 32 ≤ y → 964 ≤ a → (a - 964) % 53 = 21 → Lm' a y = Lm a y) : PrB M' Lc' Lm' := by
  intro x hx
  obtain ⟨g1, g2, g3, g4⟩ := h x hx
  exact ⟨by rw [hM _ (by omega) (by omega)]; exact g1, by rw [hM _ (by omega) (by omega)]; exact g2, by rw [hM _ (by omega) (by omega)]; exact g3, fun y hy => by rw [hC _ _ hy (by omega) (by omega), hL _ _ hy (by omega) (by omega)]; exact g4 y hy⟩
theorem PrS_f {A A' M M' : mwM} {S X n : Nat} {ow ct : Nat → Nat} {sg : Nat → Nat → Nat} {tu : Nat → Bool} (h : PrS A M S X n ow ct sg tu) (hA : ∀ a y, (a = 61 ∧ y = 10) ∨ (63 ≤ a ∧ a ≤ 69) → A' a y = A a y) (hM : ∀ a y, (a = 732 ∧ y = 45) ∨ (760 ≤ a ∧ a ≤ 765 ∧ y < S) → M' a y = M a y) : PrS A' M' S X n ow ct sg tu := by
  obtain ⟨h1, h2, h3, h4⟩ := h
  refine ⟨by rw [hA _ _ (by omega)]; exact h1, by rw [hM _ _ (by omega)]; exact h2, h3, fun s hs => ?_⟩
  rw [hA _ _ (by omega), hA _ _ (by omega), hA _ _ (by omega), hA _ _ (by omega), hA _ _ (by omega), hA _ _ (by omega), hA _ _ (by omega), hM _ _ (by omega), hM _ _ (by omega), hM _ _ (by omega), hM _ _ (by omega), hM _ _ (by omega), hM _ _ (by omega)]
  exact h4 s hs
theorem PrK_f {A A' M M' : mwM} {K : Nat} {ky : Nat → Nat → Nat} (h : PrK A M K ky) (hA : ∀ a y, (a = 61 ∧ y = 12) ∨ (82 ≤ a ∧ a ≤ 84) → A' a y = A a y) (hM : ∀ a y, (a = 732 ∧ y = 20) ∨ (738 ≤ a ∧ a ≤ 740) → M' a y = M a y) : PrK A' M' K ky := by
  obtain ⟨⟨h1, h2, h3⟩, ⟨g1, g2, g3⟩, k⟩ := h
  refine ⟨⟨by rw [hA _ _ (by omega)]; exact h1, h2, fun i hi => ?_⟩, ⟨by rw [hM _ _ (by omega)]; exact g1, g2, fun i hi => ?_⟩, k⟩
  · rw [hA _ _ (by omega), hA _ _ (by omega), hA _ _ (by omega)]
    exact h3 i hi
  · rw [hM _ _ (by omega), hM _ _ (by omega), hM _ _ (by omega)]
    exact g3 i hi
theorem PrW_f {A A' M M' : mwM} {Lm Lm' : mwL} {W S : Nat} {sg wt : Nat → Nat → Nat} (h : PrW A M Lm W S sg wt) (hA : ∀ a y, 139 ≤ a → a ≤ 153 → A' a y = A a y) (hM : ∀ a y, (a = 732 ∧ y = 62) ∨ (775 ≤ a ∧ a ≤ 777) ∨ (902 ≤ a ∧ a ≤ 920) → M' a y = M a y) (hL : ∀ y, Lm' 778 y = Lm 778 y) : PrW A' M' Lm' W S sg wt := by
  obtain ⟨h1, h2, h3, h4⟩ := h
  exact ⟨WtR_f h1 (fun a y u => hA a y (by omega) (by omega)) (fun a y u => hM a y (by omega)) hL, RTr_fr h2 (fun a y a1 a2 => hA a y a1 a2) (fun a y a1 a2 _ => hM a y (by omega)), fun w hw => by rw [hA _ _ (by omega) (by omega)]; exact h3 w hw, fun j j1 j2 => by rw [hM _ _ (by omega), hM _ _ (by omega)]; exact h4 j j1 j2⟩
theorem PR_f {A A' M M' : mwM} {Lc Lm : mwL} {n C T X S K R W : Nat} {nl : List Nm} {ow ct : Nat → Nat} {sg : Nat → Nat → Nat} {tu : Nat → Bool} {ky rd wt : Nat → Nat → Nat} (h : PR A M Lc Lm n C T X S K R W nl ow ct sg tu ky rd wt) (hA : ∀ a y, a ≠ 1 ∨ y = 3 → A' a y = A a y) (hM : ∀ a y, ¬ (a = 732 ∧ 6 ≤ y ∧ y ≤ 13) → ¬ (743 ≤ a ∧ a ≤ 746 ∧ y = T) → ¬ ((a = 761 ∨ a = 764 ∨ a = 765) ∧ y = S) → M' a y = M a y) : PR A' M' Lc Lm n C T X S K R W nl ow ct sg tu ky rd wt := by
  obtain ⟨⟨h1, h2, h3⟩, h4, h5, h6, h7, h8, h9, h10, h11, h12⟩ := h
  refine ⟨⟨by rw [hA _ _ (by omega)]; exact h1, by rw [hM _ _ (by omega) (by omega) (by omega)]; exact h2, h3⟩, PrT_f h4 (fun a y u => hA a y (by omega)) (fun a y u => hM a y (by omega) (by omega) (by omega)), PrX_f h5 (fun a y u => hA a y (by omega)) (fun a y u => hM a y (by omega) (by omega) (by omega)) (fun _ _ _ => rfl) (fun _ _ => rfl), PrB_f h6 (fun a a1 a2 => hM a 0 (by omega) (by omega) (by omega)) (fun _ _ _ _ _ => rfl) (fun _ _ _ _ _ => rfl), PrS_f h7 (fun a y u => hA a y (by omega)) (fun a y u => hM a y (by omega) (by omega) (by omega)), PrK_f h8 (fun a y u => hA a y (by omega)) (fun a y u => hM a y (by omega) (by omega) (by omega)), RdR_f h9 (fun a y u => hA a y (by omega)) (fun a y u => hM a y (by omega) (by omega) (by omega)) (fun _ => rfl) (fun _ => rfl), PrW_f h10 (fun a y a1 a2 => hA a y (by omega)) (fun a y u => hM a y (by omega) (by omega) (by omega)) (fun _ => rfl), NaR_f h11 (fun a y u => hA a y (by omega)) (fun a y u => hM a y (by omega) (by omega) (by omega)), h12⟩
/-- a word behind a blank -/
theorem nw_2 {tx : Nat → Nat} {le a : Nat} (h : a ≤ le) (hb : a < le → tx a = 32) (hk : nwK tx le a = true) : a + 2 ≤ nwE tx le a ∧ nwE tx le a ≤ le ∧ (nwE tx le a < le → tx (nwE tx le a) = 32) := by
  obtain ⟨b1, b2, b3, b4, b5, b6, b7, _⟩ := nw_b (tx := tx) h
  have h5 := b5 hk
  have : nwB tx le a < le := by
    have := of_decide_eq_true hk
    exact this.1
  have h7 := b7 hk (hb (by omega))
  exact ⟨by omega, b4, b6⟩
theorem ns_app {σ : Nat} {nl : List Nm} {q : Nm} : nsL σ (nl ++ [q]) = if q.1 = σ then nsL σ nl ++ [q] else nsL σ nl := by
  unfold nsL
  rw [List.filter_append]
  by_cases c : q.1 = σ
  · rw [if_pos c]
    simp [c]
  · rw [if_neg c]
    simp [c]
/-- what stays while a line is read -/
abbrev rA (a y : Nat) : Prop := ¬ (a = 1 ∧ (y = 3 ∨ y = 5 ∨ 7 ≤ y)) ∧ ¬ (a = 3 ∧ 13 ≤ y ∧ y ≤ 15) ∧ ¬ (a = 5 ∧ y = 3) ∧ ¬ (7 ≤ a ∧ a ≤ 17) ∧ ¬ (a = 61 ∧ (y = 10 ∨ y = 12)) ∧ ¬ (63 ≤ a ∧ a ≤ 69) ∧ ¬ (82 ≤ a ∧ a ≤ 84) ∧ ¬ (139 ≤ a ∧ a ≤ 150) ∧ a ≠ 283 ∧ ¬ (286 ≤ a ∧ a ≤ 290) ∧ ¬ (293 ≤ a ∧ a ≤ 730)
abbrev rM (a y : Nat) : Prop := ¬ (a = 732 ∧ (y = 6 ∨ (8 ≤ y ∧ y ≤ 14) ∨ y = 19 ∨ y = 20 ∨ y = 24 ∨ y = 33 ∨ y = 45 ∨ y = 55 ∨ y = 62)) ∧ ¬ (734 ≤ a ∧ a ≤ 765) ∧ ¬ (769 ≤ a ∧ a ≤ 773) ∧ ¬ (775 ≤ a ∧ a ≤ 777) ∧ ¬ (902 ≤ a ∧ a ≤ 920) ∧ ¬ (964 ≤ a ∧ (a - 964) % 53 ≤ 29)
abbrev fL (A A' M M' : mwM) (Lc Lc' Lm Lm' : mwL) : Prop := (∀ a y, rA a y → A' a y = A a y) ∧ (∀ a y, rM a y → M' a y = M a y) ∧ (∀ a, ¬ (293 ≤ a ∧ a ≤ 724) → Lc' a = Lc a) ∧ ∀ a, a < 964 → a ≠ 778 → Lm' a = Lm a
/-- how a line ends -/
def RlQ (A M : mwM) (Lc Lm : mwL) (n le : Nat) (X : Option (mwM × mwL)) (Y : Option (Int32 × mwM × mwL)) : Prop :=
  ∃ A' M' Lc' Lm', ∃ gd : Bool, X = some (A', Lc') ∧ Y = some (bI gd, M', Lm') ∧ fL A A' M M' Lc Lc' Lm Lm' ∧ (if gd = true then A' 1 12 = 0 else Fx A' M') ∧ ∃ C T X S K R W nl ow ct sg tu ky rd wt, PR A' M' Lc' Lm' n C T X S K R W nl ow ct sg tu ky rd wt ∧ 12 * nl.length ≤ le + 1 ∧ 15 * K ≤ le + 1
/-! READING: a name is kept; the line of a controller -/
theorem c_keep {fu σ w s k v : Nat} {A : mwM} {L : mwL} {nl : List Nm} (hN : NmC A nl) (h12 : A 1 12 = 0) (h10 : A 1 10 = sI w) (h11 : A 1 11 = sI s) (hl : nl.length < 600) : ∃ A', DX8_keepName fu (sI σ) (sI k) (sI v) A L = some (A', L) ∧ NmC A' (nl ++ [(σ, w, s, k, v)]) ∧ ∀ a y, ¬ (a = 1 ∧ y = 3) → ¬ (726 ≤ a ∧ a ≤ 730) → A' a y = A a y := by
  obtain ⟨n1, n2, n3⟩ := hN
  refine ⟨mset (mset (mset (mset (mset (mset A 726 nl.length (sI σ)) 727 nl.length (sI w)) 728 nl.length (sI s)) 729 nl.length (sI k)) 730 nl.length (sI v)) 1 3 (sI (nl.length + 1)), ?_, ⟨?_, ?_, ?_⟩, ?_⟩
  · unfold DX8_keepName
    rw [if_pos h12, n1, if_pos (show sI nl.length < 600 by rw [show (600 : Int32) = sI 600 from rfl, sI_lt (by omega) (by omega)]; exact hl), mck_s hl (by omega), mlet_e, sI_nn (by omega)]
    simp (disch := omega) only [mset_n, n1, mck_s, sI_nn, mlet_e, h10, h11, sI_1]
  · rw [mset_s, List.length_append]
    rfl
  · rw [List.length_append]
    show nl.length + 1 ≤ 600
    omega
  · intro i hi
    rw [List.length_append] at hi
    have hi' : i < nl.length + 1 := hi
    by_cases c : i = nl.length
    · subst c
      have e : (nl ++ [(σ, w, s, k, v)])[nl.length]'(by rw [List.length_append]; exact hi) = (σ, w, s, k, v) := by simp
      rw [e]
      dsimp only
      simp (disch := omega) only [mset_n, mset_s, mset_s]
      exact ⟨trivial, trivial, trivial, trivial, trivial⟩
    · have hi2 : i < nl.length := by omega
      have e : (nl ++ [(σ, w, s, k, v)])[i]'(by rw [List.length_append]; exact hi) = nl[i] := List.getElem_append_left hi2
      rw [e]
      obtain ⟨a1, a2, a3, a4, a5⟩ := n3 i hi2
      simp (disch := omega) only [mset_n, a1, a2, a3, a4, a5]
      exact ⟨trivial, trivial, trivial, trivial, trivial⟩
  · intro a y u1 u2
    simp (disch := omega) only [mset_n]
theorem m_addName {fu σ w s k v : Nat} {M : mwM} {L : mwL} {l : List Nm} (hN : NmM M l) (hl : l.length < 70) : ∃ M', DX19_addName fu (sI w) (sI s) (sI (k + 1)) (sI v) M L = some (M', L) ∧ NmM M' (l ++ [(σ, w, s, k, v)]) ∧ ∀ a y, ¬ (a = 732 ∧ y = 14) → ¬ (734 ≤ a ∧ a ≤ 737) → M' a y = M a y := by
  obtain ⟨n1, n2, n3⟩ := hN
  refine ⟨mset (mset (mset (mset (mset M 734 l.length (sI w)) 735 l.length (sI s)) 736 l.length (sI (k + 1))) 737 l.length (sI v)) 732 14 (sI (l.length + 1)), ?_, ⟨?_, ?_, ?_⟩, ?_⟩
  · unfold DX19_addName
    simp (disch := omega) only [mset_n, n1, mck_s, sI_nn, mlet_e, sI_1]
  · rw [mset_s, List.length_append]
    rfl
  · rw [List.length_append]
    show l.length + 1 ≤ 70
    omega
  · intro i hi
    rw [List.length_append] at hi
    have hi' : i < l.length + 1 := hi
    by_cases c : i = l.length
    · subst c
      have e : (l ++ [(σ, w, s, k, v)])[l.length]'(by rw [List.length_append]; exact hi) = (σ, w, s, k, v) := by simp
      rw [e]
      dsimp only
      simp (disch := omega) only [mset_n, mset_s, mset_s]
      exact ⟨trivial, trivial, trivial, trivial⟩
    · have hi2 : i < l.length := by omega
      have e : (l ++ [(σ, w, s, k, v)])[i]'(by rw [List.length_append]; exact hi) = l[i] := List.getElem_append_left hi2
      rw [e]
      obtain ⟨a1, a2, a3, a4⟩ := n3 i hi2
      simp (disch := omega) only [mset_n, a1, a2, a3, a4]
      exact ⟨trivial, trivial, trivial, trivial⟩
  · intro a y u1 u2
    simp (disch := omega) only [mset_n]
theorem NmO_a {n : Nat} {nl : List Nm} {q : Nm} (h : NmO n nl) (hq : q.1 < 100 ∧ q.2.1 + q.2.2.1 ≤ n ∧ 1 ≤ q.2.2.1 ∧ q.2.2.2.1 < 10 ∧ q.2.2.2.2 < 1000) : NmO n (nl ++ [q]) := by
  intro z hz
  rcases List.mem_append.mp hz with hz | hz
  · exact h z hz
  · rw [List.mem_singleton.mp hz]
    exact hq
theorem st_keep {fu n X w s k v : Nat} {A M : mwM} {Lc Lm : mwL} {nl : List Nm} (hN : NaR A M n X nl) (h12 : A 1 12 = 0) (h10 : A 1 10 = sI w) (h11 : A 1 11 = sI s) (hw : w + s ≤ n) (hs : 1 ≤ s) (hl : nl.length < 600) (h0 : (nsL 0 nl).length < 70) (hk : k < 9) (hv : v < 1000) : ∃ A' M', DX8_keepName fu 0 (sI k) (sI v) A Lc = some (A', Lc) ∧ DX19_addName fu (sI w) (sI s) (sI (k + 1)) (sI v) M Lm = some (M', Lm) ∧ NaR A' M' n X (nl ++ [(0, w, s, k, v)]) ∧ (∀ a y, ¬ (a = 1 ∧ y = 3) → ¬ (726 ≤ a ∧ a ≤ 730) → A' a y = A a y) ∧ ∀ a y, ¬ (a = 732 ∧ y = 14) → ¬ (734 ≤ a ∧ a ≤ 737) → M' a y = M a y := by
  obtain ⟨nC, nO, nM, nX, nS⟩ := hN
  obtain ⟨A', e1, e2, e3⟩ := c_keep (fu := fu) (σ := 0) (k := k) (v := v) (L := Lc) nC h12 h10 h11 hl
  obtain ⟨M', g1, g2, g3⟩ := m_addName (fu := fu) (σ := 0) (w := w) (s := s) (k := k) (v := v) (L := Lm) nM h0
  refine ⟨A', M', e1, g1, ⟨e2, NmO_a nO ⟨by show 0 < 100; omega, hw, hs, by show k < 10; omega, hv⟩, ?_, nX, fun x hx => ?_⟩, e3, g3⟩
  · rw [ns_app, if_pos rfl]
    exact g2
  · rw [ns_app, if_neg (show ¬ 0 = 1 + 2 * x by omega), ns_app, if_neg (show ¬ 0 = 2 + 2 * x by omega)]
    obtain ⟨⟨s1, s2, s3⟩, ⟨d1, d2, d3⟩⟩ := nS x hx
    refine ⟨⟨by rw [g3 _ _ (by omega) (by omega)]; exact s1, s2, fun j hj => ?_⟩, ⟨by rw [g3 _ _ (by omega) (by omega)]; exact d1, d2, fun j hj => ?_⟩⟩
    · rw [g3 _ _ (by omega) (by omega), g3 _ _ (by omega) (by omega)]
      exact s3 j hj
    · rw [g3 _ _ (by omega) (by omega), g3 _ _ (by omega) (by omega)]
      exact d3 j hj
theorem NmB_0 {C T X S C' T' X' S' : Nat} {nl : List Nm} {q : Nm} (h : NmB C T X S nl) (q0 : q.1 = 0) (hC : C ≤ C') (hT : T ≤ T') (hX : X ≤ X') (hS : S ≤ S') (hs : C' + T' + X' + S' = C + T + X + S + 1) (hq : (q.2.2.2.1 = 0 ∧ q.2.2.2.2 < C') ∨ (q.2.2.2.1 = 1 ∧ q.2.2.2.2 < T') ∨ (q.2.2.2.1 = 2 ∧ q.2.2.2.2 < X') ∨ (q.2.2.2.1 = 3 ∧ q.2.2.2.2 < S')) : NmB C' T' X' S' (nl ++ [q]) := by
  obtain ⟨h1, h2⟩ := h
  refine ⟨?_, fun z hz => ?_⟩
  · rw [ns_app, if_pos q0, List.length_append, h1]
    show C + T + X + S + 1 = _
    omega
  · rcases List.mem_append.mp hz with hz | hz
    · obtain ⟨g1, g2⟩ := h2 z hz
      refine ⟨by omega, fun z0 => ?_⟩
      rcases g2 z0 with g | g | g | g
      · exact Or.inl ⟨g.1, by omega⟩
      · exact Or.inr (Or.inl ⟨g.1, by omega⟩)
      · exact Or.inr (Or.inr (Or.inl ⟨g.1, by omega⟩))
      · exact Or.inr (Or.inr (Or.inr ⟨g.1, by omega⟩))
    · rw [List.mem_singleton.mp hz]
      exact ⟨by omega, fun _ => hq⟩
theorem PrT_m {A M : mwM} {T C C' X X' : Nat} {ow : Nat → Nat} (h : PrT A M T C X ow) (hC : C ≤ C') (hX : X ≤ X') : PrT A M T C' X' ow := by
  obtain ⟨h1, h2, h3, h4, h5⟩ := h
  refine ⟨h1, h2, h3, fun i hi => ?_, h5⟩
  obtain ⟨g1, g2, g3, g4, g5, g6, g7⟩ := h4 i hi
  refine ⟨g1, g2, by omega, g4, g5, g6, ?_⟩
  rcases g7 with g | ⟨x, x1, x2⟩
  · exact Or.inl g
  · exact Or.inr ⟨x, by omega, x2⟩
theorem PrX_n {A M : mwM} {Lc Lm : mwL} {X T : Nat} {ow ct : Nat → Nat} {nl : List Nm} {q : Nm} (h : PrX A M Lc Lm X T ow ct nl) (hq : q.1 = 0) : PrX A M Lc Lm X T ow ct (nl ++ [q]) := by
  obtain ⟨h1, h2, h3, h4, h5⟩ := h
  refine ⟨h1, h2, h3, fun x hx => ?_, h5⟩
  rw [ns_app, if_neg (by omega), ns_app, if_neg (by omega)]
  exact h4 x hx
/-- what may change while a line is read -/
abbrev fG (T S : Nat) (M M' : mwM) : Prop := ∀ x y, ¬ (x = 732 ∧ (y = 6 ∨ (9 ≤ y ∧ y ≤ 13))) → ¬ (743 ≤ x ∧ x ≤ 746 ∧ y = T) → ¬ ((x = 761 ∨ x = 764 ∨ x = 765) ∧ y = S) → M' x y = M x y
theorem rl_bad {A A' M M' : mwM} {Lc Lm : mwL} {n le C T X S K R W : Nat} {nl : List Nm} {ow ct : Nat → Nat} {sg : Nat → Nat → Nat} {tu : Nat → Bool} {ky rd wt : Nat → Nat → Nat} {P : Option (mwM × mwL)} {Q : Option (Int32 × mwM × mwL)} (hP : PR A M Lc Lm n C T X S K R W nl ow ct sg tu ky rd wt) (hl : 12 * nl.length ≤ le + 1) (hk : 15 * K ≤ le + 1) (hA : fWn A A') (hM : fG T S M M') (hX : Fx A' M') (e1 : P = some (A', Lc)) (e2 : Q = some (0, M', Lm)) : RlQ A M Lc Lm n le P Q := by
  refine ⟨A', M', Lc, Lm, false, e1, e2, ⟨fun p y u => hA p y (by omega), fun p y u => hM p y (by omega) (by omega) (by omega), fun _ _ => rfl, fun _ _ _ => rfl⟩, ?_, C, T, X, S, K, R, W, nl, ow, ct, sg, tu, ky, rd, wt, PR_f hP (fun a y u => hA a y (by omega)) (fun a y u1 u2 u3 => hM a y (by omega) u2 u3), hl, hk⟩
  rw [if_neg (by decide)]
  exact hX
theorem st_ctl {fu n le a C T X S K R W : Nat} {A M : mwM} {Lc Lm : mwL} {tx : Nat → Nat} {nl : List Nm} {ow ct : Nat → Nat} {sg : Nat → Nat → Nat} {tu : Nat → Bool} {ky rd wt : Nat → Nat → Nat} (hfu : 6100 ≤ fu) (h : Ld A M n tx le a) (hP : PR A M Lc Lm n C T X S K R W nl ow ct sg tu ky rd wt) (hb : a < le → tx a = 32) (hl : 12 * nl.length + 10 ≤ a) (hk : 15 * K ≤ a) : RlQ A M Lc Lm n le (DX8_readController fu A Lc) (DX19_addController fu M Lm) := by
  obtain ⟨⟨c1, c2, c3⟩, pT, pX, pB, pS, pK, pR, pW, pN, nB⟩ := id hP
  have ha := h.2.2.2.2.2.2.2.1
  have hle := h.2.2.2.2.1
  have hn := h.1.2.1
  obtain ⟨A1, M1, f1, f2, hr⟩ := st_newName (fu := fu) (Lc := Lc) (Lm := Lm) (had := C) (most := 6) hfu h pN (by omega) (by omega)
  unfold DX8_readController DX19_addController
  rw [c1, c2]
  rcases hr with ⟨hc, hk1, e1, e2, hL, hH, w10, w11⟩ | ⟨e1, e2, hX⟩
  · obtain ⟨k1, k2, k3⟩ := nw_2 ha hb hk1
    obtain ⟨w8, w9, m9, m10, hlt⟩ := id hH
    rw [show DX8_newName fu 0 (sI C) 6 A Lc = _ from e1, mb2_s, show DX19_newName fu (sI C) 6 M Lm = _ from e2, mb3_s, if_neg (show ¬ (1 : Int32) = 0 by decide), mlet_e, mlet_e, m9, m10, sI_sub (by omega)]
    obtain ⟨A2, M2, f3, f4, hr2⟩ := st_eol (fu := fu) (Lc := Lc) (Lm := Lm) hfu hL
    have fa : fWn A A2 := fun x y u => by rw [f3 x y (by omega), f1 x y u]
    have fm : fG T S M M2 := fun x y u1 u2 u3 => by rw [f4 x y (by omega), f2 x y (by omega)]
    rcases hr2 with ⟨hk2, e3, e4, hL2⟩ | ⟨e3, e4, hX⟩
    · have l9 := hL2.2.2.2.2.2.2.2.2
      have hP2 := PR_f hP (A' := A2) (M' := M2) (fun a y u => fa a y (by omega)) (fun a y u1 u2 u3 => fm a y (by omega) u2 u3)
      obtain ⟨⟨c1', c2', c3'⟩, pT', pX', pB', pS', pK', pR', pW', pN', nB'⟩ := hP2
      have nl0 := nB.1
      obtain ⟨A3, M3, g1, g2, g3, g4, g5⟩ := st_keep (fu := fu) (w := nwB tx le a) (s := nwE tx le a - nwB tx le a) (k := 0) (v := C) (Lc := Lc) (Lm := Lm) pN' l9 (by rw [f3 _ _ (by omega)]; exact w10) (by rw [f3 _ _ (by omega)]; exact w11) (by omega) (by omega) (by omega) (by have := pT.2.2.1; have := pX.2.2.1; have := pS.2.2.1; omega) (by omega) (by omega)
      rw [e3, mb2_s, if_pos l9, c1', show DX8_keepName fu 0 0 (sI C) A2 Lc = _ from g1, mb2_s, mlet_e, e4, mb3_s, if_neg (show ¬ (1 : Int32) = 0 by decide), c2', show DX19_addName fu (sI (nwB tx le a)) (sI (nwE tx le a - nwB tx le a)) 1 (sI C) M2 Lm = _ from g2, mb2_s, mlet_e, g4 _ _ (by omega) (by omega), c1', g5 _ _ (by omega) (by omega), c2', sI_1]
      have hA4 : ∀ x y, ¬ (x = 3 ∧ y = 13) → ¬ (x = 1 ∧ y = 3) → ¬ (726 ≤ x ∧ x ≤ 730) → mset A3 3 13 (sI (C + 1)) x y = A2 x y := fun x y u1 u2 u3 => by rw [mset_n (by omega), g4 x y u2 u3]
      have hM4 : ∀ x y, ¬ (x = 732 ∧ y = 19) → ¬ (x = 732 ∧ y = 14) → ¬ (734 ≤ x ∧ x ≤ 737) → mset M3 732 19 (sI (C + 1)) x y = M2 x y := fun x y u1 u2 u3 => by rw [mset_n (by omega), g5 x y u2 u3]
      refine ⟨_, _, Lc, Lm, true, rfl, rfl, ⟨fun p y u => ?_, fun p y u => ?_, ?_, ?_⟩, ?_, C + 1, T, X, S, K, R, W, nl ++ [(0, nwB tx le a, nwE tx le a - nwB tx le a, 0, C)], ow, ct, sg, tu, ky, rd, wt, ⟨⟨mset_s, mset_s, by omega⟩, PrT_m (PrT_f pT' (fun x y u => hA4 x y (by omega) (by omega) (by omega)) (fun x y u => hM4 x y (by omega) (by omega) (by omega))) (by omega) (by omega), PrX_n (PrX_f pX' (fun x y u => hA4 x y (by omega) (by omega) (by omega)) (fun x y u => hM4 x y (by omega) (by omega) (by omega)) (fun _ _ _ => rfl) (fun _ _ => rfl)) rfl, PrB_f pB' (fun x u1 u2 => hM4 x 0 (by omega) (by omega) (by omega)) (fun _ _ _ _ _ => rfl) (fun _ _ _ _ _ => rfl), PrS_f pS' (fun x y u => hA4 x y (by omega) (by omega) (by omega)) (fun x y u => hM4 x y (by omega) (by omega) (by omega)), PrK_f pK' (fun x y u => hA4 x y (by omega) (by omega) (by omega)) (fun x y u => hM4 x y (by omega) (by omega) (by omega)), RdR_f pR' (fun x y u => hA4 x y (by omega) (by omega) (by omega)) (fun x y u => hM4 x y (by omega) (by omega) (by omega)) (fun _ => rfl) (fun _ => rfl), PrW_f pW' (fun x y u1 u2 => hA4 x y (by omega) (by omega) (by omega)) (fun x y u => hM4 x y (by omega) (by omega) (by omega)) (fun _ => rfl), NaR_f g3 (fun x y u => mset_n (by omega)) (fun x y u => mset_n (by omega)), NmB_0 nB rfl (by omega) (by omega) (by omega) (by omega) (by omega) (Or.inl ⟨rfl, by show C < C + 1; omega⟩)⟩, ?_, by omega⟩
      · rw [hA4 p y (by omega) (by omega) (by omega), fa p y (by omega)]
      · rw [hM4 p y (by omega) (by omega) (by omega), fm p y (by omega) (by omega) (by omega)]
      · exact fun _ _ => rfl
      · exact fun _ _ _ => rfl
      · rw [if_pos rfl, hA4 _ _ (by omega) (by omega) (by omega)]
        exact l9
      · rw [List.length_append]
        show 12 * (nl.length + 1) ≤ le + 1
        omega
    · rw [e3, mb2_s, if_neg (Fx_n hX), e4, mb3_s, if_pos (show (0 : Int32) = 0 from rfl)]
      exact rl_bad hP (by omega) (by omega) fa fm hX rfl rfl
  · rw [show DX8_newName fu 0 (sI C) 6 A Lc = _ from e1, mb2_s, show DX19_newName fu (sI C) 6 M Lm = _ from e2, mb3_s, if_pos (show (0 : Int32) = 0 from rfl), nf_end (Fx_n hX), mb2_s, if_neg (Fx_n hX)]
    exact rl_bad hP (by omega) (by omega) f1 (fun x y u1 u2 u3 => f2 x y (by omega)) hX rfl rfl
/-! READING: the line of a task -/
theorem c_addTask {fu T : Nat} {a1 a2 a3 a4 a5 : Int32} {A : mwM} {L : mwL} (h : A 5 3 = sI T) (hT : T < 12) : DX4_addTask fu a1 a2 a3 a4 a5 A L = some (mset (mset (mset (mset (mset (mset (mset (mset (mset (mset (mset (mset A 7 T a1) 8 T a2) 9 T a3) 10 T a5) 11 T a4) 12 T 0) 13 T 0) 14 T 0) 15 T 0) 16 T 0) 17 T 0) 5 3 (sI (T + 1)), L) := by
  unfold DX4_addTask
  rw [if_pos (show A 5 3 < 12 by rw [h, show (12 : Int32) = sI 12 from rfl, sI_lt (by omega) (by omega)]; exact hT)]
  simp (disch := omega) only [mset_n, h, mck_s, sI_nn, mlet_e, sI_1]
theorem PrX_o {A M : mwM} {Lc Lm : mwL} {X T T' : Nat} {ow ow' ct : Nat → Nat} {nl : List Nm} (h : PrX A M Lc Lm X T ow ct nl) (hT : T ≤ T') (ho : ∀ i, i < T → ow' i = ow i) : PrX A M Lc Lm X T' ow' ct nl := by
  obtain ⟨h1, h2, h3, h4, h5⟩ := h
  refine ⟨h1, h2, h3, fun x hx => ?_, h5⟩
  obtain ⟨g1, g2, g3, g4⟩ := h4 x hx
  exact ⟨g1, by omega, by rw [ho _ g2]; exact g3, g4⟩
theorem PrS_o {A M : mwM} {S X X' n : Nat} {ow ow' ct ct' : Nat → Nat} {sg : Nat → Nat → Nat} {tu : Nat → Bool} (h : PrS A M S X n ow ct sg tu) (hX : X ≤ X') (ho : ∀ x, x < X → ow' (ct' x) = ow (ct x)) : PrS A M S X' n ow' ct' sg tu := by
  obtain ⟨h1, h2, h3, h4⟩ := h
  refine ⟨h1, h2, h3, fun s hs => ?_⟩
  obtain ⟨g1, g2, ⟨g3, g4, g5⟩, g6, g7, g8, g9⟩ := h4 s hs
  exact ⟨g1, g2, ⟨g3, g4, by omega⟩, g6, g7, by rw [ho _ g5]; exact g8, g9⟩
theorem st_task {fu n le a C T X S K R W : Nat} {A M : mwM} {Lc Lm : mwL} {tx : Nat → Nat} {nl : List Nm} {ow ct : Nat → Nat} {sg : Nat → Nat → Nat} {tu : Nat → Bool} {ky rd wt : Nat → Nat → Nat} (hfu : 6100 ≤ fu) (h : Ld A M n tx le a) (hP : PR A M Lc Lm n C T X S K R W nl ow ct sg tu ky rd wt) (hb : a < le → tx a = 32) (hl : 12 * nl.length + 4 ≤ a) (hk : 15 * K ≤ a) : RlQ A M Lc Lm n le (DX8_readTask fu A Lc) (DX19_addTask fu M Lm) := by
  obtain ⟨⟨c1, c2, c3⟩, pT, pX, pB, pS, pK, pR, pW, pN, nB⟩ := id hP
  have ha := h.2.2.2.2.2.2.2.1
  have hle := h.2.2.2.2.1
  have hn := h.1.2.1
  have hT12 := pT.2.2.1
  obtain ⟨A1, M1, f1, f2, hr⟩ := st_newName (fu := fu) (Lc := Lc) (Lm := Lm) (had := T) (most := 12) hfu h pN (by omega) (by omega)
  have fa1 : fWn A A1 := f1
  have fm1 : fG T S M M1 := fun x y u1 u2 u3 => f2 x y (by omega)
  unfold DX8_readTask DX19_addTask fX8_readTask_b108 fX19_addTask_b51
  rw [pT.1, pT.2.1]
  rcases hr with ⟨hc, hk1, e1, e2, hL, hH, w10, w11⟩ | ⟨e1, e2, hX⟩
  rotate_left
  · rw [show DX8_newName fu 0 (sI T) 12 A Lc = _ from e1, mb2_s, show DX19_newName fu (sI T) 12 M Lm = _ from e2, mb3_s, if_pos (show (0 : Int32) = 0 from rfl)]
    simp only [nf_told (Fx_n hX), nf_number (Fx_n hX), nf_end (Fx_n hX), mb3_s, mb2_s, if_neg (Fx_n hX)]
    exact rl_bad hP (by omega) (by omega) fa1 fm1 hX rfl rfl
  obtain ⟨k1, k2, k3⟩ := nw_2 ha hb hk1
  obtain ⟨w8, w9, m9, m10, hlt⟩ := id hH
  rw [show DX8_newName fu 0 (sI T) 12 A Lc = _ from e1, mb2_s, show DX19_newName fu (sI T) 12 M Lm = _ from e2, mb3_s, if_neg (show ¬ (1 : Int32) = 0 by decide), mlet_e, mlet_e, m9, m10, sI_sub (by omega)]
  have N1 := NaR_f pN (A' := A1) (M' := M1) (fun x y u => fa1 x y (by omega)) (fun x y u => fm1 x y (by omega) (by omega) (by omega))
  obtain ⟨A2, M2, f3, f4, hr⟩ := st_told (fu := fu) (Lc := Lc) (Lm := Lm) (k := 0) hfu hL N1 (by omega)
  have fa2 : fWn A A2 := fun x y u => by rw [f3 x y (by omega), fa1 x y u]
  have fm2 : fG T S M M2 := fun x y u1 u2 u3 => by rw [f4 x y (by omega), fm1 x y u1 u2 u3]
  rcases hr with ⟨q, q1, q2, q3, hk2, e3, e4, hL2, _⟩ | ⟨e3, e4, hX⟩
  rotate_left
  · rw [show DX8_toldName fu 0 0 A1 Lc = _ from e3, mb3_s, show DX19_named fu 1 M1 Lm = _ from e4, mb3_s, if_pos (show (-1 : Int32) < 0 by decide)]
    simp only [nf_told (Fx_n hX), nf_number (Fx_n hX), nf_end (Fx_n hX), mb3_s, mb2_s, if_neg (Fx_n hX)]
    exact rl_bad hP (by omega) (by omega) fa2 fm2 hX rfl rfl
  obtain ⟨k4, k5, k6⟩ := nw_2 k2 k3 hk2
  have hco : q.2.2.2.2 < C := by
    rcases (nB.2 q q1).2 q2 with g | g | g | g <;> omega
  rw [show DX8_toldName fu 0 0 A1 Lc = _ from e3, mb3_s, show DX19_named fu 1 M1 Lm = _ from e4, mb3_s, if_neg (show ¬ sI q.2.2.2.2 < 0 by rw [show (0 : Int32) = sI 0 from rfl, sI_lt (by omega) (by omega)]; omega)]
  generalize hco' : q.2.2.2.2 = co at *
  obtain ⟨A3, M3, f5, f6, hr⟩ := st_number (fu := fu) (Lc := Lc) (Lm := Lm) (a1 := sI 0) (a2 := sI 255) hfu hL2
  have fa3 : fWn A A3 := fun x y u => by rw [f5 x y (by omega), fa2 x y u]
  have fm3 : fG T S M M3 := fun x y u1 u2 u3 => by rw [f6 x y (by omega), fm2 x y u1 u2 u3]
  rcases hr with ⟨hk3, z1, z2, z3, e5, e6, e7, hL3, _⟩ | ⟨e5, e6, hX⟩
  rotate_left
  · rw [show DX8_number fu 0 255 A2 Lc = _ from e5, mb3_s, show DX19_number fu 0 255 M2 Lm = _ from e6, mb3_s, if_pos (show (0 : Int32) = 0 from rfl)]
    simp only [nf_told (Fx_n hX), nf_number (Fx_n hX), nf_end (Fx_n hX), mb3_s, mb2_s, if_neg (Fx_n hX)]
    exact rl_bad hP (by omega) (by omega) fa3 fm3 hX rfl rfl
  obtain ⟨v3, z4, z5, z6⟩ := nu_nat (lo := 0) (hi := 255) z1 z2 z3 (by omega) (by omega)
  rw [z4] at e5 e7
  have t3 : M3 732 24 = sI T := by rw [fm3 _ _ (by omega) (by omega) (by omega)]; exact pT.2.1
  rw [show DX8_number fu 0 255 A2 Lc = _ from e5, mb3_s, show DX19_number fu 0 255 M2 Lm = _ from e6, mb3_s, if_neg (show ¬ (1 : Int32) = 0 by decide), t3, mck_s hc (by omega), mlet_e, sI_nn (by omega), e7]
  have L3p : Ld A3 (mset M3 743 T (sI v3)) n tx le _ := Ld_n hL3 (fun p y u => mset_n (by omega))
  have fm3p : fG T S M (mset M3 743 T (sI v3)) := fun x y u1 u2 u3 => by rw [mset_n (by omega), fm3 x y u1 u2 u3]
  obtain ⟨A4, M4, f7, f8, hr⟩ := st_number (fu := fu) (Lc := Lc) (Lm := Lm) (a1 := sI 500) (a2 := sI 20000) hfu L3p
  have fa4 : fWn A A4 := fun x y u => by rw [f7 x y (by omega), fa3 x y u]
  have fm4 : fG T S M M4 := fun x y u1 u2 u3 => by rw [f8 x y (by omega), fm3p x y u1 u2 u3]
  rcases hr with ⟨hk4, z1, z2, z3, e5, e6, e7, hL4, _⟩ | ⟨e5, e6, hX⟩
  rotate_left
  · rw [show DX8_number fu 500 20000 A3 Lc = _ from e5, mb3_s, show DX19_number fu 500 20000 (mset M3 743 T (sI v3)) Lm = _ from e6, mb3_s, if_pos (show (0 : Int32) = 0 from rfl)]
    simp only [nf_told (Fx_n hX), nf_number (Fx_n hX), nf_end (Fx_n hX), mb3_s, mb2_s, if_neg (Fx_n hX)]
    exact rl_bad hP (by omega) (by omega) fa4 fm4 hX rfl rfl
  obtain ⟨v4, z4, z5, z6⟩ := nu_nat (lo := 500) (hi := 20000) z1 z2 z3 (by omega) (by omega)
  rw [z4] at e5 e7
  have t4 : M4 732 24 = sI T := by rw [fm4 _ _ (by omega) (by omega) (by omega)]; exact pT.2.1
  rw [show DX8_number fu 500 20000 A3 Lc = _ from e5, mb3_s, show DX19_number fu 500 20000 (mset M3 743 T (sI v3)) Lm = _ from e6, mb3_s, if_neg (show ¬ (1 : Int32) = 0 by decide), t4, mck_s hc (by omega), mlet_e, sI_nn (by omega), e7]
  have L4p : Ld A4 (mset M4 744 T (sI v4)) n tx le _ := Ld_n hL4 (fun p y u => mset_n (by omega))
  have fm4p : fG T S M (mset M4 744 T (sI v4)) := fun x y u1 u2 u3 => by rw [mset_n (by omega), fm4 x y u1 u2 u3]
  have e74 : M4 732 13 = sI v4 := e7
  have h45 : (sI v4 : Int32) - 1 = sI (v4 - 1) := by rw [show (1 : Int32) = sI 1 from rfl, sI_sub (by omega)]
  obtain ⟨A5, M5, f9, f10, hr⟩ := st_number (fu := fu) (Lc := Lc) (Lm := Lm) (a1 := sI 0) (a2 := sI (v4 - 1)) hfu L4p
  have fa5 : fWn A A5 := fun x y u => by rw [f9 x y (by omega), fa4 x y u]
  have fm5 : fG T S M M5 := fun x y u1 u2 u3 => by rw [f10 x y (by omega), fm4p x y u1 u2 u3]
  rcases hr with ⟨hk5, z1, z2, z3, e5, e6, e7, hL5, _⟩ | ⟨e5, e6, hX⟩
  rotate_left
  · rw [show DX8_number fu 0 (sI v4 - 1) A4 Lc = _ from h45 ▸ e5, mb3_s, mset_n (show ¬ (732 = 744 ∧ 13 = T) by omega), e74, h45, show DX19_number fu 0 (sI (v4 - 1)) (mset M4 744 T (sI v4)) Lm = _ from e6, mb3_s, if_pos (show (0 : Int32) = 0 from rfl)]
    simp only [nf_told (Fx_n hX), nf_number (Fx_n hX), nf_end (Fx_n hX), mb3_s, mb2_s, if_neg (Fx_n hX)]
    exact rl_bad hP (by omega) (by omega) fa5 fm5 hX rfl rfl
  obtain ⟨v5, z4, z5, z6⟩ := nu_nat (lo := 0) (hi := v4 - 1) z1 z2 z3 (by omega) (by omega)
  rw [z4] at e5 e7
  have t5 : M5 732 24 = sI T := by rw [fm5 _ _ (by omega) (by omega) (by omega)]; exact pT.2.1
  rw [show DX8_number fu 0 (sI v4 - 1) A4 Lc = _ from h45 ▸ e5, mb3_s, mset_n (show ¬ (732 = 744 ∧ 13 = T) by omega), e74, h45, show DX19_number fu 0 (sI (v4 - 1)) (mset M4 744 T (sI v4)) Lm = _ from e6, mb3_s, if_neg (show ¬ (1 : Int32) = 0 by decide), t5, mck_s hc (by omega), mlet_e, sI_nn (by omega), e7]
  have L5p : Ld A5 (mset M5 745 T (sI v5)) n tx le _ := Ld_n hL5 (fun p y u => mset_n (by omega))
  have fm5p : fG T S M (mset M5 745 T (sI v5)) := fun x y u1 u2 u3 => by rw [mset_n (by omega), fm5 x y u1 u2 u3]
  obtain ⟨A6, M6, f11, f12, hr⟩ := st_number (fu := fu) (Lc := Lc) (Lm := Lm) (a1 := sI 1) (a2 := sI 1000) hfu L5p
  have fa6 : fWn A A6 := fun x y u => by rw [f11 x y (by omega), fa5 x y u]
  have fm6 : fG T S M M6 := fun x y u1 u2 u3 => by rw [f12 x y (by omega), fm5p x y u1 u2 u3]
  rcases hr with ⟨hk6, z1, z2, z3, e5, e6, e7, hL6, _⟩ | ⟨e5, e6, hX⟩
  rotate_left
  · rw [show DX8_number fu 1 1000 A5 Lc = _ from e5, mb3_s, show DX19_number fu 1 1000 (mset M5 745 T (sI v5)) Lm = _ from e6, mb3_s, if_pos (show (0 : Int32) = 0 from rfl)]
    simp only [nf_told (Fx_n hX), nf_number (Fx_n hX), nf_end (Fx_n hX), mb3_s, mb2_s, if_neg (Fx_n hX)]
    exact rl_bad hP (by omega) (by omega) fa6 fm6 hX rfl rfl
  obtain ⟨v6, z4, z5, z6⟩ := nu_nat (lo := 1) (hi := 1000) z1 z2 z3 (by omega) (by omega)
  rw [z4] at e5 e7
  have t6 : M6 732 24 = sI T := by rw [fm6 _ _ (by omega) (by omega) (by omega)]; exact pT.2.1
  rw [show DX8_number fu 1 1000 A5 Lc = _ from e5, mb3_s, show DX19_number fu 1 1000 (mset M5 745 T (sI v5)) Lm = _ from e6, mb3_s, if_neg (show ¬ (1 : Int32) = 0 by decide), t6, mck_s hc (by omega), mlet_e, sI_nn (by omega), e7]
  have L6p : Ld A6 (mset M6 746 T (sI v6)) n tx le _ := Ld_n hL6 (fun p y u => mset_n (by omega))
  have fm6p : fG T S M (mset M6 746 T (sI v6)) := fun x y u1 u2 u3 => by rw [mset_n (by omega), fm6 x y u1 u2 u3]
  obtain ⟨A7, M7, f13, f14, hr⟩ := st_eol (fu := fu) (Lc := Lc) (Lm := Lm) hfu L6p
  have fa7 : fWn A A7 := fun x y u => by rw [f13 x y (by omega), fa6 x y u]
  have fm7 : fG T S M M7 := fun x y u1 u2 u3 => by rw [f14 x y (by omega), fm6p x y u1 u2 u3]
  rcases hr with ⟨hk7, e8, e9, hL7⟩ | ⟨e8, e9, hX⟩
  rotate_left
  · rw [e8, mb2_s, if_neg (Fx_n hX), e9, mb3_s, if_pos (show (0 : Int32) = 0 from rfl)]
    exact rl_bad hP (by omega) (by omega) fa7 fm7 hX rfl rfl
  obtain ⟨k7, k8, k9⟩ := nw_2 k5 k6 hk3
  obtain ⟨k10, k11, k12⟩ := nw_2 k8 k9 hk4
  obtain ⟨k13, k14, k15⟩ := nw_2 k11 k12 hk5
  obtain ⟨k16, k17, k18⟩ := nw_2 k14 k15 hk6
  have l9 := hL7.2.2.2.2.2.2.2.2
  -- what the reference wrote on its way
  have r3 : M7 743 T = sI v3 := by rw [f14 _ _ (by omega), mset_n (by omega), f12 _ _ (by omega), mset_n (by omega), f10 _ _ (by omega), mset_n (by omega), f8 _ _ (by omega), mset_s]
  have r4 : M7 744 T = sI v4 := by rw [f14 _ _ (by omega), mset_n (by omega), f12 _ _ (by omega), mset_n (by omega), f10 _ _ (by omega), mset_s]
  have r5 : M7 745 T = sI v5 := by rw [f14 _ _ (by omega), mset_n (by omega), f12 _ _ (by omega), mset_s]
  have r6 : M7 746 T = sI v6 := by rw [f14 _ _ (by omega), mset_s]
  have hP2 := PR_f hP (A' := A7) (M' := M7) (fun a y u => fa7 a y (by omega)) (fun a y u1 u2 u3 => fm7 a y (by omega) u2 u3)
  obtain ⟨⟨c1', c2', c3'⟩, pT', pX', pB', pS', pK', pR', pW', pN', nB'⟩ := hP2
  have nl0 := nB.1
  obtain ⟨t1, t2, t3, t4, t5⟩ := id pT'
  generalize hM8 : mset (mset (mset (mset M7 741 T (sI (nwB tx le a))) 742 T (sI co)) 747 T (-1)) 748 T 0 = M8
  have fm8 : ∀ x y, ¬ ((x = 741 ∨ x = 742 ∨ x = 747 ∨ x = 748) ∧ y = T) → M8 x y = M7 x y := fun x y u => by rw [← hM8, mset_n (by omega), mset_n (by omega), mset_n (by omega), mset_n (by omega)]
  have s2 : M8 742 T = sI co := by rw [← hM8, mset_n (by omega), mset_n (by omega), mset_s]
  have s7 : M8 747 T = -1 := by rw [← hM8, mset_n (by omega), mset_s]
  have s8 : M8 748 T = 0 := by rw [← hM8, mset_s]
  have N8 := NaR_f pN' (A' := A7) (M' := M8) (fun _ _ _ => rfl) (fun x y u => fm8 x y (by omega))
  obtain ⟨A9, M9, g1, g2, g3, g4, g5⟩ := st_keep (fu := fu) (w := nwB tx le a) (s := nwE tx le a - nwB tx le a) (k := 1) (v := T) (Lc := Lc) (Lm := Lm) N8 l9 (by rw [f13 _ _ (by omega), f11 _ _ (by omega), f9 _ _ (by omega), f7 _ _ (by omega), f5 _ _ (by omega), f3 _ _ (by omega)]; exact w10) (by rw [f13 _ _ (by omega), f11 _ _ (by omega), f9 _ _ (by omega), f7 _ _ (by omega), f5 _ _ (by omega), f3 _ _ (by omega)]; exact w11) (by omega) (by omega) (by omega) (by have := pX.2.2.1; have := pS.2.2.1; omega) (by omega) (by omega)
  rw [e8, mb2_s, if_pos l9, t1, show DX8_keepName fu 0 1 (sI T) A7 Lc = _ from g1, mb2_s, c_addTask (T := T) (by rw [g4 _ _ (by omega) (by omega)]; exact t1) hc, mb2_s, e9, mb3_s, if_neg (show ¬ (1 : Int32) = 0 by decide)]
  have Rr : mck (M7 732 24) 12 (mlet (mset M7 741 ((M7 732 24).toNatClampNeg) (sI (nwB tx le a))) (fun M40 => mck (M40 732 24) 12 (mlet (mset M40 742 ((M40 732 24).toNatClampNeg) (sI co)) (fun M42 => mck (M42 732 24) 12 (mlet (mset M42 747 ((M42 732 24).toNatClampNeg) ((-1))) (fun M44 => mck (M44 732 24) 12 (mlet (mset M44 748 ((M44 732 24).toNatClampNeg) 0) (fun M46 => mb2 (DX19_addName fu (sI (nwB tx le a)) (sI (nwE tx le a - nwB tx le a)) 2 (M46 732 24) M46 Lm) (fun M47 L48 => mlet (mset M47 732 24 ((M47 732 24) + 1)) (fun M49 => some ((1 : Int32), M49, L48))))))))))) = some (1, mset M9 732 24 (sI (T + 1)), Lm) := by
    simp (disch := omega) only [mset_n, t2, mck_s, sI_nn, mlet_e]
    rw [hM8, show DX19_addName fu (sI (nwB tx le a)) (sI (nwE tx le a - nwB tx le a)) 2 (sI T) M8 Lm = _ from g2, mb2_s, g5 _ _ (by omega) (by omega), fm8 _ _ (by omega), t2, sI_1]
  rw [Rr]
  generalize hA0 : mset (mset (mset (mset (mset (mset (mset (mset (mset (mset (mset (mset A9 7 T (sI v3)) 8 T (sI co)) 9 T (sI v4)) 10 T (sI v6)) 11 T (sI v5)) 12 T 0) 13 T 0) 14 T 0) 15 T 0) 16 T 0) 17 T 0) 5 3 (sI (T + 1)) = A0
  have hA4 : ∀ x y, ¬ (x = 5 ∧ y = 3) → ¬ (7 ≤ x ∧ x ≤ 17 ∧ y = T) → ¬ (x = 1 ∧ y = 3) → ¬ (726 ≤ x ∧ x ≤ 730) → A0 x y = A7 x y := fun x y u1 u2 u3 u4 => by
    rw [← hA0]
    simp (disch := omega) only [mset_n]
    exact g4 x y u3 u4
  have hM4 : ∀ x y, ¬ (x = 732 ∧ y = 24) → ¬ (x = 732 ∧ y = 14) → ¬ (734 ≤ x ∧ x ≤ 737) → ¬ ((x = 741 ∨ x = 742 ∨ x = 747 ∨ x = 748) ∧ y = T) → mset M9 732 24 (sI (T + 1)) x y = M7 x y := fun x y u1 u2 u3 u4 => by rw [mset_n (by omega), g5 x y u2 u3, fm8 x y u4]
  have hM5 : ∀ x y, 741 ≤ x → x ≤ 748 → mset M9 732 24 (sI (T + 1)) x y = M8 x y := fun x y u1 u2 => by rw [mset_n (by omega), g5 x y (by omega) (by omega)]
  refine ⟨A0, _, Lc, Lm, true, rfl, rfl, ⟨fun p y u => ?_, fun p y u => ?_, ?_, ?_⟩, ?_, C, T + 1, X, S, K, R, W, nl ++ [(0, nwB tx le a, nwE tx le a - nwB tx le a, 1, T)], fun i => if i = T then co else ow i, ct, sg, tu, ky, rd, wt, ⟨⟨by rw [hA4 _ _ (by omega) (by omega) (by omega) (by omega)]; exact c1', by rw [hM4 _ _ (by omega) (by omega) (by omega) (by omega)]; exact c2', c3⟩, ?_, PrX_n (PrX_o (PrX_f pX' (fun x y u => hA4 x y (by omega) (by omega) (by omega) (by omega)) (fun x y u => hM4 x y (by omega) (by omega) (by omega) (by omega)) (fun _ _ _ => rfl) (fun _ _ => rfl)) (by omega) (fun i hi => if_neg (by omega))) rfl, PrB_f pB' (fun x u1 u2 => hM4 x 0 (by omega) (by omega) (by omega) (by omega)) (fun _ _ _ _ _ => rfl) (fun _ _ _ _ _ => rfl), PrS_o (PrS_f pS' (fun x y u => hA4 x y (by omega) (by omega) (by omega) (by omega)) (fun x y u => hM4 x y (by omega) (by omega) (by omega) (by omega))) (Nat.le_refl _) (fun x hx => by have := (pX.2.2.2.1 x hx).2.1; exact if_neg (by omega)), PrK_f pK' (fun x y u => hA4 x y (by omega) (by omega) (by omega) (by omega)) (fun x y u => hM4 x y (by omega) (by omega) (by omega) (by omega)), RdR_f pR' (fun x y u => hA4 x y (by omega) (by omega) (by omega) (by omega)) (fun x y u => hM4 x y (by omega) (by omega) (by omega) (by omega)) (fun _ => rfl) (fun _ => rfl), PrW_f pW' (fun x y u1 u2 => hA4 x y (by omega) (by omega) (by omega) (by omega)) (fun x y u => hM4 x y (by omega) (by omega) (by omega) (by omega)) (fun _ => rfl), NaR_f g3 (fun x y u => by
      rw [← hA0]
      simp (disch := omega) only [mset_n]) (fun x y u => mset_n (by omega)), NmB_0 nB rfl (by omega) (by omega) (by omega) (by omega) (by omega) (Or.inr (Or.inl ⟨rfl, by show T < T + 1; omega⟩))⟩, ?_, by omega⟩
  · rw [hA4 p y (by omega) (by omega) (by omega) (by omega), fa7 p y (by omega)]
  · rw [hM4 p y (by omega) (by omega) (by omega) (by omega), fm7 p y (by omega) (by omega) (by omega)]
  · exact fun _ _ => rfl
  · exact fun _ _ _ => rfl
  · rw [if_pos rfl, hA4 _ _ (by omega) (by omega) (by omega) (by omega)]
    exact l9
  · refine ⟨by rw [← hA0, mset_s], mset_s, by omega, fun i hi => ?_, fun i i1 i2 => by rw [hA4 _ _ (by omega) (by omega) (by omega) (by omega)]; exact t5 i (by omega) i2⟩
    by_cases ci : i = T
    · subst ci
      dsimp only
      rw [if_pos rfl, hM5 _ _ (by omega) (by omega), hM5 _ _ (by omega) (by omega), hM5 _ _ (by omega) (by omega), hM5 _ _ (by omega) (by omega), hM5 _ _ (by omega) (by omega), hM5 _ _ (by omega) (by omega), hM5 _ _ (by omega) (by omega), s2, s7, s8, fm8 743 i (by omega), fm8 744 i (by omega), fm8 745 i (by omega), fm8 746 i (by omega), r3, r4, r5, r6]
      refine ⟨?_, rfl, hco, ⟨v3, v4, v5, v6, ?_, rfl, by omega, ?_, rfl, by omega, by omega, ?_, rfl, by omega, ?_, rfl, by omega, by omega⟩, fun x x1 x2 => ?_, rfl, Or.inl ⟨?_, rfl⟩⟩
      · rw [← hA0]
        simp (disch := omega) only [mset_n, mset_s]
      · rw [← hA0]
        simp (disch := omega) only [mset_n, mset_s]
      · rw [← hA0]
        simp (disch := omega) only [mset_n, mset_s]
      · rw [← hA0]
        simp (disch := omega) only [mset_n, mset_s]
      · rw [← hA0]
        simp (disch := omega) only [mset_n, mset_s]
      · rw [← hA0]
        have : x = 12 ∨ x = 13 ∨ x = 14 ∨ x = 15 ∨ x = 16 ∨ x = 17 := by omega
        rcases this with rfl | rfl | rfl | rfl | rfl | rfl <;> simp (disch := omega) only [mset_n, mset_s]
      · rw [hA4 _ _ (by omega) (by omega) (by omega) (by omega)]
        exact t5 i (by omega) (by omega)
    · obtain ⟨b1, b2, b3, ⟨pr, pe, ou, wk, b4⟩, b5, b6, b7⟩ := t4 i (by omega)
      dsimp only
      rw [if_neg ci, hA4 _ _ (by omega) (by omega) (by omega) (by omega), hM4 _ _ (by omega) (by omega) (by omega) (by omega)]
      refine ⟨b1, b2, b3, ⟨pr, pe, ou, wk, ?_⟩, fun x x1 x2 => ?_, ?_, ?_⟩
      · rw [hA4 7 _ (by omega) (by omega) (by omega) (by omega), hA4 9 _ (by omega) (by omega) (by omega) (by omega), hA4 11 _ (by omega) (by omega) (by omega) (by omega), hA4 10 _ (by omega) (by omega) (by omega) (by omega), hM4 743 _ (by omega) (by omega) (by omega) (by omega), hM4 744 _ (by omega) (by omega) (by omega) (by omega), hM4 745 _ (by omega) (by omega) (by omega) (by omega), hM4 746 _ (by omega) (by omega) (by omega) (by omega)]
        exact b4
      · rw [hA4 _ _ (by omega) (by omega) (by omega) (by omega)]
        exact b5 x x1 x2
      · rw [hM4 _ _ (by omega) (by omega) (by omega) (by omega)]
        exact b6
      · rw [hA4 _ _ (by omega) (by omega) (by omega) (by omega), hM4 _ _ (by omega) (by omega) (by omega) (by omega)]
        exact b7
  · rw [List.length_append]
    show 12 * (nl.length + 1) ≤ le + 1
    omega
/-! READING: the line of a chart -/
theorem ns_none {σ : Nat} {nl : List Nm} (h : ∀ q, q ∈ nl → q.1 ≠ σ) : nsL σ nl = [] := by
  unfold nsL
  rw [List.filter_eq_nil_iff]
  intro q hq
  simp [h q hq]
theorem c_addCh {fu X t l : Nat} {A : mwM} {L : mwL} {va : Nat → Int32} (hfu : 6100 ≤ fu) (h : A 3 14 = sI X) (hX : X < 12) (ht : t < 12) (hl : l ≤ 50) : ∃ A' L', DX1_addChart fu (sI t) (sI l) A L = some (A', L') ∧ ReC (293 + 36 * X) A' L' (c00 l) b00 va (D00 (L (293 + 36 * X + 34))) (fun _ => 0) ∧ A' (293 + 36 * X) 5 = A 8 t ∧ A' (293 + 36 * X) 11 = 0 ∧ A' (293 + 36 * X) 13 = 0 ∧ A' 283 t = sI X ∧ A' 3 14 = sI (X + 1) ∧ (∀ b y, ¬ (293 + 36 * X ≤ b ∧ b ≤ 293 + 36 * X + 33) → ¬ (b = 283 ∧ y = t) → ¬ (b = 3 ∧ y = 14) → A' b y = A b y) ∧ ∀ b, b ≠ 293 + 36 * X + 34 → L' b = L b := by
  obtain ⟨A1, L1, e1, e2, e3, e4, e5, e6, e7, e8⟩ := wq_ex (c_begin (fu := fu) (k := 293 + 36 * X) (l := l) (A := A) (L := L) (a := A 8 t) (va := va) (by omega) hl)
  dsimp only at e2 e3 e4 e5 e6 e7 e8
  have h1 : A1 3 14 = sI X := by rw [e7 _ _ (by omega)]; exact h
  refine ⟨mset (mset A1 283 t (sI X)) 3 14 (sI (X + 1)), L1, ?_, ReC_f e2 (fun a y a1 a2 _ _ _ _ => by rw [mset_n (by omega), mset_n (by omega)]) rfl, by rw [mset_n (by omega), mset_n (by omega)]; exact e3, by rw [mset_n (by omega), mset_n (by omega)]; exact e4, by rw [mset_n (by omega), mset_n (by omega)]; exact e6, by rw [mset_n (by omega), mset_s], mset_s, fun b y u1 u2 u3 => by rw [mset_n (by omega), mset_n (by omega), e7 b y u1], e8⟩
  unfold DX1_addChart
  rw [h, mck_s hX (by omega), mck_s ht (by omega), sI_nn (by omega), sI_nn (by omega), e1, mb2_s, mlet_e, h1, mlet_e, mset_n (show ¬ (3 = 283 ∧ 14 = t) by omega), h1, sI_1, mck_s ht (by omega)]
theorem st_chart {fu n le a C T X S K R W : Nat} {A M : mwM} {Lc Lm : mwL} {tx : Nat → Nat} {nl : List Nm} {ow ct : Nat → Nat} {sg : Nat → Nat → Nat} {tu : Nat → Bool} {ky rd wt : Nat → Nat → Nat} (hfu : 6100 ≤ fu) (h : Ld A M n tx le a) (hP : PR A M Lc Lm n C T X S K R W nl ow ct sg tu ky rd wt) (hb : a < le → tx a = 32) (hl : 12 * nl.length + 5 ≤ a) (hk : 15 * K ≤ a) : RlQ A M Lc Lm n le (DX8_readChart fu A Lc) (DX19_addChart fu M Lm) := by
  obtain ⟨⟨c1, c2, c3⟩, pT, pX, pB, pS, pK, pR, pW, pN, nB⟩ := id hP
  have ha := h.2.2.2.2.2.2.2.1
  have hle := h.2.2.2.2.1
  have hn := h.1.2.1
  have hX12 := pX.2.2.1
  have hT12 := pT.2.2.1
  obtain ⟨A1, M1, f1, f2, hr⟩ := st_newName (fu := fu) (Lc := Lc) (Lm := Lm) (had := X) (most := 12) hfu h pN (by omega) (by omega)
  have fa1 : fWn A A1 := f1
  have fm1 : fG T S M M1 := fun x y u1 u2 u3 => f2 x y (by omega)
  unfold DX8_readChart DX19_addChart fX8_readChart_b64 fX8_readChart_b93 fX19_addChart_b56
  rw [pX.1, pX.2.1]
  rcases hr with ⟨hc, hk1, e1, e2, hL, hH, w10, w11⟩ | ⟨e1, e2, hX⟩
  rotate_left
  · rw [show DX8_newName fu 0 (sI X) 12 A Lc = _ from e1, mb2_s, show DX19_newName fu (sI X) 12 M Lm = _ from e2, mb3_s, if_pos (show (0 : Int32) = 0 from rfl)]
    simp only [nf_told (Fx_n hX), nf_number (Fx_n hX), nf_end (Fx_n hX), mb3_s, mb2_s, mlet_e, if_neg (Fx_n hX)]
    exact rl_bad hP (by omega) (by omega) fa1 fm1 hX rfl rfl
  obtain ⟨k1, k2, k3⟩ := nw_2 ha hb hk1
  obtain ⟨w8, w9, m9, m10, hlt⟩ := id hH
  rw [show DX8_newName fu 0 (sI X) 12 A Lc = _ from e1, mb2_s, show DX19_newName fu (sI X) 12 M Lm = _ from e2, mb3_s, if_neg (show ¬ (1 : Int32) = 0 by decide), mlet_e, mlet_e, m9, m10, sI_sub (by omega)]
  have N1 := NaR_f pN (A' := A1) (M' := M1) (fun x y u => fa1 x y (by omega)) (fun x y u => fm1 x y (by omega) (by omega) (by omega))
  obtain ⟨A2, M2, f3, f4, hr⟩ := st_told (fu := fu) (Lc := Lc) (Lm := Lm) (k := 1) hfu hL N1 (by omega)
  have fa2 : fWn A A2 := fun x y u => by rw [f3 x y (by omega), fa1 x y u]
  have fm2 : fG T S M M2 := fun x y u1 u2 u3 => by rw [f4 x y (by omega), fm1 x y u1 u2 u3]
  rcases hr with ⟨q, q1, q2, q3, hk2, e3, e4, hL2, hH2⟩ | ⟨e3, e4, hX⟩
  rotate_left
  · rw [show DX8_toldName fu 0 1 A1 Lc = _ from e3, mb3_s, show DX19_named fu 2 M1 Lm = _ from e4, mb3_s, mlet_e, mlet_e, if_pos (show (-1 : Int32) < 0 by decide)]
    simp only [nf_told (Fx_n hX), nf_number (Fx_n hX), nf_end (Fx_n hX), mb3_s, mb2_s, if_neg (Fx_n hX)]
    exact rl_bad hP (by omega) (by omega) fa2 fm2 hX rfl rfl
  obtain ⟨k4, k5, k6⟩ := nw_2 k2 k3 hk2
  obtain ⟨y8, _, n9, _, _⟩ := id hH2
  have ht : q.2.2.2.2 < T := by
    rcases (nB.2 q q1).2 q2 with g | g | g | g <;> omega
  rw [show DX8_toldName fu 0 1 A1 Lc = _ from e3, mb3_s, show DX19_named fu 2 M1 Lm = _ from e4, mb3_s, mlet_e, mlet_e, y8, n9, if_neg (show ¬ sI q.2.2.2.2 < 0 by rw [show (0 : Int32) = sI 0 from rfl, sI_lt (by omega) (by omega)]; omega)]
  generalize ht' : q.2.2.2.2 = t at *
  obtain ⟨A3, M3, f5, f6, hr⟩ := st_number (fu := fu) (Lc := Lc) (Lm := Lm) (a1 := sI 0) (a2 := sI 50) hfu hL2
  have fa3 : fWn A A3 := fun x y u => by rw [f5 x y (by omega), fa2 x y u]
  have fm3 : fG T S M M3 := fun x y u1 u2 u3 => by rw [f6 x y (by omega), fm2 x y u1 u2 u3]
  rcases hr with ⟨hk3, z1, z2, z3, e5, e6, e7, hL3, _⟩ | ⟨e5, e6, hX⟩
  rotate_left
  · rw [show DX8_number fu 0 50 A2 Lc = _ from e5, mb3_s, show DX19_number fu 0 50 M2 Lm = _ from e6, mb3_s, if_pos (show (0 : Int32) = 0 from rfl)]
    simp only [nf_end (Fx_n hX), mb3_s, mb2_s, if_neg (Fx_n hX)]
    exact rl_bad hP (by omega) (by omega) fa3 fm3 hX rfl rfl
  obtain ⟨l, z4, z5, z6⟩ := nu_nat (lo := 0) (hi := 50) z1 z2 z3 (by omega) (by omega)
  rw [z4] at e5 e7
  obtain ⟨k7, k8, k9⟩ := nw_2 k5 k6 hk3
  rw [show DX8_number fu 0 50 A2 Lc = _ from e5, mb3_s, show DX19_number fu 0 50 M2 Lm = _ from e6, mb3_s, if_neg (show ¬ (1 : Int32) = 0 by decide), mlet_e, e7]
  obtain ⟨A4, M4, f7, f8, hr⟩ := st_eol (fu := fu) (Lc := Lc) (Lm := Lm) hfu hL3
  have fa4 : fWn A A4 := fun x y u => by rw [f7 x y (by omega), fa3 x y u]
  have fm4 : fG T S M M4 := fun x y u1 u2 u3 => by rw [f8 x y (by omega), fm3 x y u1 u2 u3]
  rcases hr with ⟨hk4, e8, e9, hL4⟩ | ⟨e8, e9, hX⟩
  rotate_left
  · rw [e8, mb2_s, if_neg (Fx_n hX), if_neg (Fx_n hX), e9, mb3_s, if_pos (show (0 : Int32) = 0 from rfl)]
    exact rl_bad hP (by omega) (by omega) fa4 fm4 hX rfl rfl
  have l9 := hL4.2.2.2.2.2.2.2.2
  have hP2 := PR_f hP (A' := A4) (M' := M4) (fun a y u => fa4 a y (by omega)) (fun a y u1 u2 u3 => fm4 a y (by omega) u2 u3)
  obtain ⟨⟨c1', c2', c3'⟩, pT', pX', pB', pS', pK', pR', pW', pN', nB'⟩ := hP2
  obtain ⟨t1, t2, t3, t4, t5⟩ := id pT'
  obtain ⟨x1, x2, x3, x4, x5⟩ := id pX'
  obtain ⟨g1, g2, g3, g4, g5, g6, g7⟩ := t4 t ht
  rw [e8, mb2_s, if_pos l9, mck_s (show t < 12 by omega) (by omega), sI_nn (by omega), e9, mb3_s, if_neg (show ¬ (1 : Int32) = 0 by decide), mck_s (show t < 12 by omega) (by omega)]
  rcases g7 with ⟨u1, u2⟩ | ⟨z, uz, u1, u2⟩
  rotate_left
  · have nz : ¬ sI z < 0 := by rw [show (0 : Int32) = sI 0 from rfl, sI_lt (by omega) (by omega)]; omega
    have hX : Fx (mset (mset A4 1 12 7) 1 13 (sI (nwB tx le (nwE tx le a)))) (mset (mset M4 732 11 7) 732 12 (sI (nwB tx le (nwE tx le a)))) := Fx_i (k := 7) (by omega) (by omega) (by have := (nw_b (tx := tx) k2).2.1; omega)
    rw [u1, if_neg nz, u2, if_neg nz, c_fail l9, mb2_s, if_neg (Fx_n hX), m_fail, mb3_s]
    exact rl_bad hP (by omega) (by omega) (fun x y u => by rw [mset_n (by omega), mset_n (by omega), fa4 x y u]) (fun x y u1 u2 u3 => by rw [mset_n (by omega), mset_n (by omega), fm4 x y u1 u2 u3]) hX rfl rfl
  rw [u1, if_pos (show (-1 : Int32) < 0 by decide), if_pos l9, u2, if_pos (show (-1 : Int32) < 0 by decide), mck_s (show t < 12 by omega) (by omega)]
  have nl0 := nB.1
  -- the reference
  generalize hM5 : mset (mset (mset (mset (mset (mset (mset M4 747 t (sI X)) 749 X (sI t)) 750 X 0) 751 X 0) 752 X 0) 754 X 0) 757 X 0 = M5
  have fm5 : ∀ x y, ¬ (x = 747 ∧ y = t) → ¬ ((x = 749 ∨ x = 750 ∨ x = 751 ∨ x = 752 ∨ x = 754 ∨ x = 757) ∧ y = X) → M5 x y = M4 x y := fun x y u1 u2 => by
    rw [← hM5]
    simp (disch := omega) only [mset_n]
  have s7 : M5 747 t = sI X := by
    rw [← hM5]
    simp (disch := omega) only [mset_n, mset_s]
  have s9 : M5 749 X = sI t := by
    rw [← hM5]
    simp (disch := omega) only [mset_n, mset_s]
  have s50 : M5 750 X = 0 := by
    rw [← hM5]
    simp (disch := omega) only [mset_n, mset_s]
  have s51 : M5 751 X = 0 := by
    rw [← hM5]
    simp (disch := omega) only [mset_n, mset_s]
  have s52 : M5 752 X = 0 := by
    rw [← hM5]
    simp (disch := omega) only [mset_n, mset_s]
  have s54 : M5 754 X = 0 := by
    rw [← hM5]
    simp (disch := omega) only [mset_n, mset_s]
  have s57 : M5 757 X = 0 := by
    rw [← hM5]
    simp (disch := omega) only [mset_s]
  obtain ⟨b1, b2, b3, b4⟩ := pB' X hc
  obtain ⟨M6, Lm6, d1, d2, d3, d4, d5, d6⟩ := wq_ex (m_anew (fu := fu) (q := 964 + 53 * X) (l := l) (M := M5) (L := Lm) (va := fun _ => 0) (by omega) z6 ⟨by rw [fm5 _ _ (by omega) (by omega)]; exact b1, by rw [fm5 _ _ (by omega) (by omega)]; exact b2, by rw [fm5 _ _ (by omega) (by omega)]; exact b3⟩)
  dsimp only at d2 d3 d4 d5 d6
  have fm6 : ∀ x y, ¬ (964 ≤ x) → ¬ (x = 747 ∧ y = t) → ¬ ((x = 749 ∨ x = 750 ∨ x = 751 ∨ x = 752 ∨ x = 754 ∨ x = 757) ∧ y = X) → M6 x y = M4 x y := fun x y u0 u1 u2 => by rw [d5 x y (by omega), fm5 x y u1 u2]
  have fm6' : ∀ x y, 964 ≤ x → ¬ (964 + 53 * X ≤ x ∧ x ≤ 964 + 53 * X + 16) → M6 x y = M4 x y := fun x y u0 u1 => by rw [d5 x y u1, fm5 x y (by omega) (by omega)]
  have N6 : NaR A4 M6 n X nl := by
    obtain ⟨nC, nO, nM, nX, nS⟩ := pN'
    refine ⟨nC, nO, ?_, nX, fun x hx => ?_⟩
    · obtain ⟨i1, i2, i3⟩ := nM
      refine ⟨by rw [fm6 _ _ (by omega) (by omega) (by omega)]; exact i1, i2, fun j hj => ?_⟩
      rw [fm6 _ _ (by omega) (by omega) (by omega), fm6 _ _ (by omega) (by omega) (by omega), fm6 _ _ (by omega) (by omega) (by omega), fm6 _ _ (by omega) (by omega) (by omega)]
      exact i3 j hj
    · obtain ⟨⟨i1, i2, i3⟩, ⟨j1, j2, j3⟩⟩ := nS x hx
      refine ⟨⟨by rw [fm6 _ _ (by omega) (by omega) (by omega)]; exact i1, i2, fun j hj => ?_⟩, ⟨by rw [fm6 _ _ (by omega) (by omega) (by omega)]; exact j1, j2, fun j hj => ?_⟩⟩
      · rw [fm6 _ _ (by omega) (by omega) (by omega), fm6 _ _ (by omega) (by omega) (by omega)]
        exact i3 j hj
      · rw [fm6 _ _ (by omega) (by omega) (by omega), fm6 _ _ (by omega) (by omega) (by omega)]
        exact j3 j hj
  obtain ⟨A7, M7, g8, g9, g10, g11, g12⟩ := st_keep (fu := fu) (w := nwB tx le a) (s := nwE tx le a - nwB tx le a) (k := 2) (v := X) (Lc := Lc) (Lm := Lm6) N6 l9 (by rw [f7 _ _ (by omega), f5 _ _ (by omega), f3 _ _ (by omega)]; exact w10) (by rw [f7 _ _ (by omega), f5 _ _ (by omega), f3 _ _ (by omega)]; exact w11) (by omega) (by omega) (by omega) (by have := pS.2.2.1; omega) (by omega) (by omega)
  obtain ⟨A8, Lc8, i1, i2, i3, i4, i5, i6, i7, i8, i9⟩ := c_addCh (fu := fu) (X := X) (t := t) (l := l) (A := A7) (L := Lc) (va := fun _ => 0) hfu (by rw [g11 _ _ (by omega) (by omega)]; exact x1) hc (by omega) z6
  have Rr : mlet (mset M4 747 t (M4 732 33)) (fun M24 => mck (M24 732 33) 12 (mlet (mset M24 749 ((M24 732 33).toNatClampNeg) (sI t)) (fun M26 => mck (M26 732 33) 12 (mlet (mset M26 750 ((M26 732 33).toNatClampNeg) 0) (fun M28 => mck (M28 732 33) 12 (mlet (mset M28 751 ((M28 732 33).toNatClampNeg) 0) (fun M30 => mck (M30 732 33) 12 (mlet (mset M30 752 ((M30 732 33).toNatClampNeg) 0) (fun M32 => mck (M32 732 33) 12 (mlet (mset M32 754 ((M32 732 33).toNatClampNeg) 0) (fun M34 => mck (M34 732 33) 12 (mlet (mset M34 757 ((M34 732 33).toNatClampNeg) 0) (fun M36 => mck (M36 732 33) 12 (mb2 (DX13_anew fu ((964 + 53 * (M36 732 33).toNatClampNeg)) (sI l) M36 Lm) (fun M38 L39 => mb2 (DX19_addName fu (sI (nwB tx le a)) (sI (nwE tx le a - nwB tx le a)) 3 (M38 732 33) M38 L39) (fun M40 L41 => mlet (mset M40 732 33 ((M40 732 33) + 1)) (fun M42 => some ((1 : Int32), M42, L41)))))))))))))))))) = some (1, mset M7 732 33 (sI (X + 1)), Lm6) := by
    simp (disch := omega) only [mset_n, x2, mck_s, sI_nn, mlet_e]
    rw [hM5, d1, mb2_s, fm6 732 33 (by omega) (by omega) (by omega), x2, show DX19_addName fu (sI (nwB tx le a)) (sI (nwE tx le a - nwB tx le a)) 3 (sI X) M6 Lm6 = _ from g9, mb2_s, g12 _ _ (by omega) (by omega), fm6 732 33 (by omega) (by omega) (by omega), x2, sI_1]
  rw [x1, show DX8_keepName fu 0 2 (sI X) A4 Lc = _ from g8, mb2_s, i1, mb2_s]
  rw [Rr]
  have hA4 : ∀ x y, ¬ (293 + 36 * X ≤ x ∧ x ≤ 293 + 36 * X + 33) → ¬ (x = 283 ∧ y = t) → ¬ (x = 3 ∧ y = 14) → ¬ (x = 1 ∧ y = 3) → ¬ (726 ≤ x ∧ x ≤ 730) → A8 x y = A4 x y := fun x y u1 u2 u3 u4 u5 => by rw [i8 x y u1 u2 u3, g11 x y u4 u5]
  have hM4 : ∀ x y, ¬ (964 ≤ x) → ¬ (x = 747 ∧ y = t) → ¬ ((x = 749 ∨ x = 750 ∨ x = 751 ∨ x = 752 ∨ x = 754 ∨ x = 757) ∧ y = X) → ¬ (x = 732 ∧ (y = 14 ∨ y = 33)) → ¬ (734 ≤ x ∧ x ≤ 737) → mset M7 732 33 (sI (X + 1)) x y = M4 x y := fun x y u1 u2 u3 u4 u5 => by rw [mset_n (by omega), g12 x y (by omega) u5, fm6 x y u1 u2 u3]
  have hM6 : ∀ x y, 964 ≤ x → mset M7 732 33 (sI (X + 1)) x y = M6 x y := fun x y u1 => by rw [mset_n (by omega), g12 x y (by omega) (by omega)]
  have hM5' : ∀ x y, 747 ≤ x → x ≤ 757 → mset M7 732 33 (sI (X + 1)) x y = M5 x y := fun x y u1 u2 => by rw [mset_n (by omega), g12 x y (by omega) (by omega), d5 x y (by omega)]
  have hDD : D00 (Lc (293 + 36 * X + 34)) = D00 (Lm (964 + 53 * X + 21)) := by
    funext j
    unfold D00
    by_cases cj : j < 32
    · rw [if_pos cj, if_pos cj]
    · rw [if_neg cj, if_neg cj]
      exact b4 j (by omega)
  have nn : ∀ σ, 2 * X < σ → nsL σ (nl ++ [(0, nwB tx le a, nwE tx le a - nwB tx le a, 2, X)]) = [] := fun σ hσ => ns_none (fun z hz => by
    rcases List.mem_append.mp hz with hz | hz
    · have := (nB.2 z hz).1
      omega
    · rw [List.mem_singleton.mp hz]
      show 0 ≠ σ
      omega)
  have rmX : ReM (964 + 53 * X) (mset M7 732 33 (sI (X + 1))) Lm6 (c00 l) b00 (fun _ => 0) (D00 (Lc (293 + 36 * X + 34))) (fun _ => 0) := by
    rw [hDD]
    exact ReM_f d2 (fun x y u1 u2 _ => hM6 x y (by omega)) (fun _ _ _ => rfl)
  refine ⟨A8, _, Lc8, Lm6, true, rfl, rfl, ⟨fun p y u => ?_, fun p y u => ?_, ?_, ?_⟩, ?_, C, T, X + 1, S, K, R, W, nl ++ [(0, nwB tx le a, nwE tx le a - nwB tx le a, 2, X)], ow, fun x => if x = X then t else ct x, sg, tu, ky, rd, wt, ⟨⟨by rw [hA4 _ _ (by omega) (by omega) (by omega) (by omega) (by omega)]; exact c1', by rw [hM4 _ _ (by omega) (by omega) (by omega) (by omega) (by omega)]; exact c2', c3⟩, ?_, ?_, ?_, PrS_o (PrS_f pS' (fun x y u => hA4 x y (by omega) (by omega) (by omega) (by omega) (by omega)) (fun x y u => hM4 x y (by omega) (by omega) (by omega) (by omega) (by omega))) (by omega) (fun x hx => by
      show ow (if x = X then t else ct x) = _
      rw [if_neg (by omega)]), PrK_f pK' (fun x y u => hA4 x y (by omega) (by omega) (by omega) (by omega) (by omega)) (fun x y u => hM4 x y (by omega) (by omega) (by omega) (by omega) (by omega)), ?_, PrW_f pW' (fun x y u1 u2 => hA4 x y (by omega) (by omega) (by omega) (by omega) (by omega)) (fun x y u => hM4 x y (by omega) (by omega) (by omega) (by omega) (by omega)) (fun y => by rw [d6 _ (by omega)]), ?_, NmB_0 nB rfl (by omega) (by omega) (by omega) (by omega) (by omega) (Or.inr (Or.inr (Or.inl ⟨rfl, by show X < X + 1; omega⟩)))⟩, ?_, by omega⟩
  · rw [hA4 p y (by omega) (by omega) (by omega) (by omega) (by omega), fa4 p y (by omega)]
  · by_cases cp : 964 ≤ p
    · rw [hM6 p y cp, fm6' p y cp (by omega), fm4 p y (by omega) (by omega) (by omega)]
    · rw [hM4 p y (by omega) (by omega) (by omega) (by omega) (by omega), fm4 p y (by omega) (by omega) (by omega)]
  · exact fun p u => i9 p (by omega)
  · exact fun p u1 u2 => d6 p (by omega)
  · rw [if_pos rfl, hA4 _ _ (by omega) (by omega) (by omega) (by omega) (by omega)]
    exact l9
  · -- tasks
    refine ⟨by rw [hA4 _ _ (by omega) (by omega) (by omega) (by omega) (by omega)]; exact t1, by rw [hM4 _ _ (by omega) (by omega) (by omega) (by omega) (by omega)]; exact t2, t3, fun i hi => ?_, fun j j1 j2 => by rw [hA4 _ _ (by omega) (by omega) (by omega) (by omega) (by omega)]; exact t5 j j1 j2⟩
    obtain ⟨b1, b2, b3, ⟨pr, pe, ou, wk, b4⟩, b5, b6, b7⟩ := t4 i hi
    rw [hA4 8 _ (by omega) (by omega) (by omega) (by omega) (by omega), hM4 742 _ (by omega) (by omega) (by omega) (by omega) (by omega), hM4 748 _ (by omega) (by omega) (by omega) (by omega) (by omega)]
    refine ⟨b1, b2, b3, ⟨pr, pe, ou, wk, ?_⟩, fun x x1 x2 => ?_, b6, ?_⟩
    · rw [hA4 7 _ (by omega) (by omega) (by omega) (by omega) (by omega), hA4 9 _ (by omega) (by omega) (by omega) (by omega) (by omega), hA4 11 _ (by omega) (by omega) (by omega) (by omega) (by omega), hA4 10 _ (by omega) (by omega) (by omega) (by omega) (by omega), hM4 743 _ (by omega) (by omega) (by omega) (by omega) (by omega), hM4 744 _ (by omega) (by omega) (by omega) (by omega) (by omega), hM4 745 _ (by omega) (by omega) (by omega) (by omega) (by omega), hM4 746 _ (by omega) (by omega) (by omega) (by omega) (by omega)]
      exact b4
    · rw [hA4 _ _ (by omega) (by omega) (by omega) (by omega) (by omega)]
      exact b5 x x1 x2
    · by_cases ci : i = t
      · rw [ci]
        exact Or.inr ⟨X, by omega, i6, by rw [hM5' _ _ (by omega) (by omega)]; exact s7⟩
      · rw [hA4 _ _ (by omega) (by omega) (by omega) (by omega) (by omega), hM4 _ _ (by omega) (by omega) (by omega) (by omega) (by omega)]
        rcases b7 with b7 | ⟨z, z1, z2⟩
        · exact Or.inl b7
        · exact Or.inr ⟨z, by omega, z2⟩
  · -- charts
    refine ⟨i7, mset_s, by omega, fun x hx => ?_, fun x xa xb => by rw [hA4 _ _ (by omega) (by omega) (by omega) (by omega) (by omega)]; exact x5 x (by omega) xb⟩
    dsimp only
    by_cases cx : x = X
    · subst cx
      rw [if_pos rfl, nn _ (by omega), nn _ (by omega)]
      refine ⟨by rw [hM5' _ _ (by omega) (by omega)]; exact s9, ht, by rw [i3, g11 _ _ (by omega) (by omega)]; exact g1, i4, i5, by rw [hM5' _ _ (by omega) (by omega)]; exact s51, by rw [hM5' _ _ (by omega) (by omega)]; exact s52, d4, c00 l, fun _ => 0, D00 (Lc (293 + 36 * x + 34)), fun _ => 0, Cv_00 z6, i2, rmX, ClM_f d3 (fun a y u1 u2 _ => hM6 a y (by omega)) (fun _ _ _ => rfl), c00_0 (by omega), c00_0 (by omega), by rw [hM5' _ _ (by omega) (by omega), s50, c00_0 (by omega)]; rfl, fun s hs => ⟨c00_r (by omega), c00_r (by omega)⟩⟩
    · obtain ⟨b1, b2, b3, b4⟩ := x4 x (by omega)
      rw [if_neg cx, ns_app, if_neg (show ¬ 0 = 1 + 2 * x by omega), ns_app, if_neg (show ¬ 0 = 2 + 2 * x by omega)]
      have hxX : x < X := by omega
      exact ⟨by rw [hM4 _ _ (by omega) (by omega) (by omega) (by omega) (by omega)]; exact b1, b2, by rw [hA4 _ _ (by omega) (by omega) (by omega) (by omega) (by omega)]; exact b3, ChP_f b4 (fun p y u1 u2 => hA4 p y (by omega) (by omega) (by omega) (by omega) (by omega)) (fun p y u => by
        by_cases cp : 964 ≤ p
        · rw [hM6 p y cp, fm6' p y cp (by omega)]
        · exact hM4 p y (by omega) (by omega) (by omega) (by omega) (by omega)) (i9 _ (by omega)) (fun p u1 u2 => d6 p (by omega))⟩
  · -- what never changes
    intro x hx
    by_cases cx : x = X
    · subst cx
      obtain ⟨⟨_, r1⟩, _, _, ⟨_, _, _, _, _, r2, _⟩, _⟩ := rmX
      obtain ⟨_, _, _, ⟨_, _, _, _, _, r3⟩, _⟩ := i2
      obtain ⟨r4, r5, r6⟩ := r1 0 (by omega)
      refine ⟨r5, r4, r6, fun y _ => ?_⟩
      rw [r3, r2]
    · obtain ⟨b1, b2, b3, b4⟩ := pB' x hx
      rw [hM6 _ _ (by omega), hM6 _ _ (by omega), hM6 _ _ (by omega), fm6' _ _ (by omega) (by omega), fm6' _ _ (by omega) (by omega), fm6' _ _ (by omega) (by omega)]
      refine ⟨b1, b2, b3, fun y hy => ?_⟩
      rw [i9 _ (by omega), d6 _ (by omega)]
      exact b4 y hy
  · -- reads
    obtain ⟨r1, r2, r3, r4⟩ := RdR_f pR' (A' := A8) (M' := mset M7 732 33 (sI (X + 1))) (Lc' := Lc8) (Lm' := Lm6) (fun x y u => hA4 x y (by omega) (by omega) (by omega) (by omega) (by omega)) (fun x y u => hM4 x y (by omega) (by omega) (by omega) (by omega) (by omega)) (fun y => by rw [i9 _ (by omega)]) (fun y => by rw [d6 _ (by omega)])
    refine ⟨r1, r2, r3, fun r hr => ?_⟩
    obtain ⟨v1, v2, v3, v4, v5, v6, v7⟩ := r4 r hr
    exact ⟨v1, v2, v3, v4, v5, by omega, v7⟩
  · -- names
    obtain ⟨nC, nO, nM, nX, nS⟩ := NaR_f g10 (A' := A8) (M' := mset M7 732 33 (sI (X + 1))) (fun x y u => i8 x y (by omega) (by omega) (by omega)) (fun x y u => mset_n (by omega))
    refine ⟨nC, nO, nM, by omega, fun x hx => ?_⟩
    by_cases cx : x = X
    · subst cx
      rw [nn _ (by omega), nn _ (by omega)]
      exact ⟨⟨by rw [hM5' _ _ (by omega) (by omega)]; exact s54, by show 0 ≤ 200; omega, fun k hk => absurd hk (by simp)⟩, ⟨by rw [hM5' _ _ (by omega) (by omega)]; exact s57, by show 0 ≤ 32; omega, fun k hk => absurd hk (by simp)⟩⟩
    · exact nS x (by omega)
  · rw [List.length_append]
    show 12 * (nl.length + 1) ≤ le + 1
    omega
/-! READING: lines that add to one chart -/
theorem PR_ch {A A' M M' : mwM} {Lc Lc' Lm Lm' : mwL} {n C T X S K R W x : Nat} {nl nl' : List Nm} {ow ct : Nat → Nat} {sg : Nat → Nat → Nat} {tu : Nat → Bool} {ky rd wt : Nat → Nat → Nat} (hP : PR A M Lc Lm n C T X S K R W nl ow ct sg tu ky rd wt) (hx : x < X) (hA : ∀ a y, ¬ (293 + 36 * x ≤ a ∧ a ≤ 293 + 36 * x + 35) → ¬ a = 1 → ¬ (726 ≤ a ∧ a ≤ 730) → A' a y = A a y) (hA5 : A' (293 + 36 * x) 5 = A (293 + 36 * x) 5) (hM : ∀ a y, ¬ (964 + 53 * x ≤ a ∧ a ≤ 964 + 53 * x + 52) → ¬ (a = 750 ∧ y = x) → ¬ (a = 732 ∧ 6 ≤ y ∧ y ≤ 14) → ¬ (754 ≤ a ∧ a ≤ 759) → M' a y = M a y) (hC : ∀ a, a ≠ 293 + 36 * x + 34 → Lc' a = Lc a) (hL : ∀ a, ¬ (964 + 53 * x ≤ a ∧ a ≤ 964 + 53 * x + 52) → Lm' a = Lm a) (hN : NaR A' M' n X nl') (hB : NmB C T X S nl') (hc : ChP A' M' Lc' Lm' x (nsL (1 + 2 * x) nl').length (nsL (2 + 2 * x) nl').length) (hσ : ∀ z, z ≠ x → nsL (1 + 2 * z) nl' = nsL (1 + 2 * z) nl ∧ nsL (2 + 2 * z) nl' = nsL (2 + 2 * z) nl) : PR A' M' Lc' Lm' n C T X S K R W nl' ow ct sg tu ky rd wt := by
  obtain ⟨⟨h1, h2, h3⟩, h4, ⟨x1, x2, x3, x4, x5⟩, h6, h7, h8, h9, h10, h11, h12⟩ := hP
  refine ⟨⟨by rw [hA _ _ (by omega) (by omega) (by omega)]; exact h1, by rw [hM _ _ (by omega) (by omega) (by omega) (by omega)]; exact h2, h3⟩, PrT_f h4 (fun a y u => hA a y (by omega) (by omega) (by omega)) (fun a y u => hM a y (by omega) (by omega) (by omega) (by omega)), ⟨by rw [hA _ _ (by omega) (by omega) (by omega)]; exact x1, by rw [hM _ _ (by omega) (by omega) (by omega) (by omega)]; exact x2, x3, fun z hz => ?_, fun z z1 z2 => by rw [hA _ _ (by omega) (by omega) (by omega)]; exact x5 z z1 z2⟩, fun z hz => ?_, PrS_f h7 (fun a y u => hA a y (by omega) (by omega) (by omega)) (fun a y u => hM a y (by omega) (by omega) (by omega) (by omega)), PrK_f h8 (fun a y u => hA a y (by omega) (by omega) (by omega)) (fun a y u => hM a y (by omega) (by omega) (by omega) (by omega)), RdR_f h9 (fun a y u => hA a y (by omega) (by omega) (by omega)) (fun a y u => hM a y (by omega) (by omega) (by omega) (by omega)) (fun y => by rw [hC _ (by omega)]) (fun y => by rw [hL _ (by omega)]), PrW_f h10 (fun a y a1 a2 => hA a y (by omega) (by omega) (by omega)) (fun a y u => hM a y (by omega) (by omega) (by omega) (by omega)) (fun y => by rw [hL _ (by omega)]), hN, hB⟩
  · obtain ⟨g1, g2, g3, g4⟩ := x4 z hz
    by_cases cz : z = x
    · rw [cz] at g1 g2 g3 ⊢
      exact ⟨by rw [hM _ _ (by omega) (by omega) (by omega) (by omega)]; exact g1, g2, by rw [hA5]; exact g3, hc⟩
    · rw [(hσ z cz).1, (hσ z cz).2]
      exact ⟨by rw [hM _ _ (by omega) (by omega) (by omega) (by omega)]; exact g1, g2, by rw [hA _ _ (by omega) (by omega) (by omega)]; exact g3, ChP_f g4 (fun a y u1 u2 => hA a y (by omega) (by omega) (by omega)) (fun a y u => hM a y (by omega) (by omega) (by omega) (by omega)) (hC _ (by omega)) (fun a u1 u2 => hL a (by omega))⟩
  · by_cases cz : z = x
    · rw [cz]
      obtain ⟨_, _, _, _, _, c, va, D, xx, v1, v2, v3, _⟩ := hc
      obtain ⟨⟨_, r1⟩, _, _, ⟨_, _, _, _, _, r2, _⟩, _⟩ := v3
      obtain ⟨_, _, _, ⟨_, _, _, _, _, r3⟩, _⟩ := v2
      obtain ⟨⟨_, p1, p2, p3, _⟩, _⟩ := v1
      obtain ⟨r4, r5, r6⟩ := r1 0 (by omega)
      rw [p1] at r4
      rw [p2] at r5
      rw [p3] at r6
      refine ⟨r5, r4, r6, fun y _ => ?_⟩
      rw [r3, r2]
    · obtain ⟨b1, b2, b3, b4⟩ := h6 z hz
      rw [hM _ _ (by omega) (by omega) (by omega) (by omega), hM _ _ (by omega) (by omega) (by omega) (by omega), hM _ _ (by omega) (by omega) (by omega) (by omega)]
      refine ⟨b1, b2, b3, fun y hy => ?_⟩
      rw [hC _ (by omega), hL _ (by omega)]
      exact b4 y hy
theorem nf_keep {fu : Nat} {a1 a2 a3 : Int32} {A : mwM} {L : mwL} (h : ¬ A 1 12 = 0) : DX8_keepName fu a1 a2 a3 A L = some (A, L) := by
  unfold DX8_keepName
  rw [if_neg h]
  rfl
abbrev hdK (r : Int32) : Nat := if r = -4 then 6 else 7
theorem c_heed {fu b : Nat} {r : Int32} {A : mwM} {L : mwL} (h12 : A 1 12 = 0) (h7 : A 1 7 = sI b) (hr : ¬ (0 : Int32) ≤ r) : DX8_heed fu r A L = some (flA A (sI (hdK r)) (sI b), L) := by
  unfold DX8_heed fX8_heed_b18 fX8_heed_b25
  rw [if_neg hr, c_fail h12, mb2_s, c_fail h12, mb2_s, h7]
  by_cases c : r = -4
  · rw [if_pos c, show hdK r = 6 from if_pos c]
    rfl
  · rw [if_neg c, show hdK r = 7 from if_neg c]
    rfl
theorem c_heed0 {fu m : Nat} {A : mwM} {L : mwL} (hm : m < 2000000000) : DX8_heed fu (sI m) A L = some (A, L) := by
  unfold DX8_heed fX8_heed_b25
  rw [if_pos (show (0 : Int32) ≤ sI m by rw [show (0 : Int32) = sI 0 from rfl, sI_le (by omega) hm]; omega)]
theorem m_fits {fu b : Nat} {r : Int32} {M : mwM} {L : mwL} (h8 : M 732 8 = sI b) (hr : ¬ (0 : Int32) ≤ r) : DX19_fits fu r M L = some (0, flM M (sI (hdK r)) (sI b), L) := by
  unfold DX19_fits fX19_fits_b18 fX19_fits_b28 fX19_fits_b33
  rw [if_neg hr, m_fail, mb3_s, if_pos (show (0 : Int32) = 0 from rfl), m_fail, mb3_s, if_pos (show (0 : Int32) = 0 from rfl), h8]
  by_cases c : r = -4
  · rw [if_pos c, show hdK r = 6 from if_pos c]
    rfl
  · rw [if_neg c, show hdK r = 7 from if_neg c]
    rfl
theorem m_fits0 {fu m : Nat} {M : mwM} {L : mwL} (hm : m < 2000000000) : DX19_fits fu (sI m) M L = some (1, M, L) := by
  unfold DX19_fits fX19_fits_b28 fX19_fits_b33
  rw [if_pos (show (0 : Int32) ≤ sI m by rw [show (0 : Int32) = sI 0 from rfl, sI_le (by omega) hm]; omega)]
  rfl
/-- the chart refuses -/
theorem rl_heed {A0 M0 A M M' : mwM} {Lc Lm Lm' : mwL} {n le b C T X S K R W x : Nat} {r : Int32} {nl : List Nm} {ow ct : Nat → Nat} {sg : Nat → Nat → Nat} {tu : Nat → Bool} {ky rd wt : Nat → Nat → Nat} {P : Option (mwM × mwL)} {Q : Option (Int32 × mwM × mwL)} (hP : PR A M Lc Lm n C T X S K R W nl ow ct sg tu ky rd wt) (hl : 12 * nl.length ≤ le + 1) (hk : 15 * K ≤ le + 1) (fa : fWn A0 A) (fm : fG T S M0 M) (hx : x < X) (hb : b ≤ 6000) (hM : ∀ a y, ¬ (964 + 53 * x ≤ a ∧ a ≤ 964 + 53 * x + 29) → M' a y = M a y) (hL : ∀ a, ¬ (964 + 53 * x ≤ a ∧ a ≤ 964 + 53 * x + 29) → Lm' a = Lm a) (hc : ChP A M' Lc Lm' x (nsL (1 + 2 * x) nl).length (nsL (2 + 2 * x) nl).length) (e1 : P = some (flA A (sI (hdK r)) (sI b), Lc)) (e2 : Q = some (0, flM M' (sI (hdK r)) (sI b), Lm')) : RlQ A0 M0 Lc Lm n le P Q := by
  have hx12 := hP.2.2.1.2.2.1
  have hk8 : 1 ≤ hdK r ∧ hdK r ≤ 8 := by
    unfold hdK
    by_cases c : r = -4
    · rw [if_pos c]
      omega
    · rw [if_neg c]
      omega
  have fA : ∀ p y, ¬ (p = 1 ∧ (y = 12 ∨ y = 13)) → flA A (sI (hdK r)) (sI b) p y = A p y := fun p y u => by
    show mset (mset A 1 12 _) 1 13 _ p y = _
    rw [mset_n (by omega), mset_n (by omega)]
  have fM : ∀ p y, ¬ (p = 732 ∧ (y = 11 ∨ y = 12)) → flM M' (sI (hdK r)) (sI b) p y = M' p y := fun p y u => by
    show mset (mset M' 732 11 _) 732 12 _ p y = _
    rw [mset_n (by omega), mset_n (by omega)]
  refine ⟨_, _, Lc, Lm', false, e1, e2, ⟨fun p y u => ?_, fun p y u => ?_, ?_, ?_⟩, ?_, C, T, X, S, K, R, W, nl, ow, ct, sg, tu, ky, rd, wt, PR_ch hP hx (fun p y u1 u2 u3 => fA p y (by omega)) (fA _ _ (by omega)) (fun p y u1 u2 u3 u4 => by rw [fM p y (by omega), hM p y (by omega)]) (fun _ _ => rfl) (fun p u => hL p (by omega)) ?_ hP.2.2.2.2.2.2.2.2.2 ?_ (fun z _ => ⟨rfl, rfl⟩), hl, hk⟩
  · rw [fA p y (by omega), fa p y (by omega)]
  · rw [fM p y (by omega), hM p y (by omega), fm p y (by omega) (by omega) (by omega)]
  · exact fun _ _ => rfl
  · exact fun p u1 u2 => hL p (by omega)
  · rw [if_neg (by decide)]
    exact Fx_i hk8.1 hk8.2 hb
  · exact NaR_f hP.2.2.2.2.2.2.2.2.1 (fun p y u => fA p y (by omega)) (fun p y u => by rw [fM p y (by omega), hM p y (by omega)])
  · exact ChP_f hc (fun p y u1 u2 => fA p y (by omega)) (fun p y u => fM p y (by omega)) rfl (fun _ _ _ => rfl)
/-- the chart took it; no name is new -/
theorem rl_chart {A0 M0 A A' M M' : mwM} {Lc Lc' Lm Lm' : mwL} {n le C T X S K R W x : Nat} {nl : List Nm} {ow ct : Nat → Nat} {sg : Nat → Nat → Nat} {tu : Nat → Bool} {ky rd wt : Nat → Nat → Nat} {P : Option (mwM × mwL)} {Q : Option (Int32 × mwM × mwL)} (hP : PR A M Lc Lm n C T X S K R W nl ow ct sg tu ky rd wt) (hl : 12 * nl.length ≤ le + 1) (hk : 15 * K ≤ le + 1) (fa : fWn A0 A) (fm : fG T S M0 M) (hx : x < X) (h12 : A 1 12 = 0) (hA : ∀ a y, ¬ (293 + 36 * x ≤ a ∧ a ≤ 293 + 36 * x + 35) → A' a y = A a y) (hA5 : A' (293 + 36 * x) 5 = A (293 + 36 * x) 5) (hM : ∀ a y, ¬ (964 + 53 * x ≤ a ∧ a ≤ 964 + 53 * x + 29) → ¬ (a = 750 ∧ y = x) → M' a y = M a y) (hC : ∀ a, a ≠ 293 + 36 * x + 34 → Lc' a = Lc a) (hL : ∀ a, ¬ (964 + 53 * x ≤ a ∧ a ≤ 964 + 53 * x + 29) → Lm' a = Lm a) (hc : ChP A' M' Lc' Lm' x (nsL (1 + 2 * x) nl).length (nsL (2 + 2 * x) nl).length) (e1 : P = some (A', Lc')) (e2 : Q = some (1, M', Lm')) : RlQ A0 M0 Lc Lm n le P Q := by
  have hx12 := hP.2.2.1.2.2.1
  refine ⟨A', M', Lc', Lm', true, e1, e2, ⟨fun p y u => ?_, fun p y u => ?_, ?_, ?_⟩, ?_, C, T, X, S, K, R, W, nl, ow, ct, sg, tu, ky, rd, wt, PR_ch hP hx (fun p y u1 u2 u3 => hA p y (by omega)) hA5 (fun p y u1 u2 u3 u4 => hM p y (by omega) u2) hC (fun p u => hL p (by omega)) ?_ hP.2.2.2.2.2.2.2.2.2 hc (fun z _ => ⟨rfl, rfl⟩), hl, hk⟩
  · rw [hA p y (by omega), fa p y (by omega)]
  · rw [hM p y (by omega) (by omega), fm p y (by omega) (by omega) (by omega)]
  · exact fun p u => hC p (by omega)
  · exact fun p u1 u2 => hL p (by omega)
  · rw [if_pos rfl, hA _ _ (by omega)]
    exact h12
  · exact NaR_f hP.2.2.2.2.2.2.2.2.1 (fun p y u => hA p y (by omega)) (fun p y u => hM p y (by omega) (by omega))
theorem wq_e3 {o : Option (Int32 × mwM × mwL)} {Q : Int32 × mwM × mwL → Prop} (h : wq o Q) : ∃ r A L, o = some (r, A, L) ∧ Q (r, A, L) := by
  obtain ⟨⟨r, A, L⟩, h1, h2⟩ := h
  exact ⟨r, A, L, h1, h2⟩
theorem st_of {fu x : Nat} {A : mwM} {L : mwL} : DX8_statesOf fu (sI x) A L = some (sI (1 + 2 * x), A, L) := by
  unfold DX8_statesOf
  rw [show (1 : Int32) + 2 * sI x = sI (1 + 2 * x) by rw [show (2 : Int32) * sI x = sI (2 * x) from sI_lml]; exact sI_lad]
theorem da_of {fu x : Nat} {A : mwM} {L : mwL} : DX8_dataOf fu (sI x) A L = some (sI (2 + 2 * x), A, L) := by
  unfold DX8_dataOf
  rw [show (2 : Int32) + 2 * sI x = sI (2 + 2 * x) by rw [show (2 : Int32) * sI x = sI (2 * x) from sI_lml]; exact sI_lad]
theorem ns_s {m : Nat} (hm : m < 2000000000) : ¬ sI m < 0 := by rw [show (0 : Int32) = sI 0 from rfl, sI_lt hm (by omega)]; omega
theorem ge_s {m : Nat} (hm : m < 2000000000) : (0 : Int32) ≤ sI m := by rw [show (0 : Int32) = sI 0 from rfl, sI_le (by omega) hm]; omega
theorem st_after {fu n le a b C T X S K R W : Nat} {A M : mwM} {Lc Lm : mwL} {tx : Nat → Nat} {nl : List Nm} {ow ct : Nat → Nat} {sg : Nat → Nat → Nat} {tu : Nat → Bool} {ky rd wt : Nat → Nat → Nat} (hfu : 6100 ≤ fu) (h : Ld A M n tx le a) (hP : PR A M Lc Lm n C T X S K R W nl ow ct sg tu ky rd wt) (h7 : A 1 7 = sI b) (h8 : M 732 8 = sI b) (hbn : b ≤ 6000) (hl : 12 * nl.length ≤ a) (hk : 15 * K ≤ a) : RlQ A M Lc Lm n le (DX8_readAfter fu A Lc) (DX19_addAfter fu M Lm) := by
  obtain ⟨⟨c1, c2, c3⟩, pT, pX, pB, pS, pK, pR, pW, pN, nB⟩ := id hP
  have ha := h.2.2.2.2.2.2.2.1
  have hX12 := pX.2.2.1
  obtain ⟨A1, M1, f1, f2, hr⟩ := st_told (fu := fu) (Lc := Lc) (Lm := Lm) (k := 2) hfu h pN (by omega)
  have fa1 : fWn A A1 := fun x y u => f1 x y (by omega)
  have fm1 : fG T S M M1 := fun x y u1 u2 u3 => f2 x y (by omega)
  unfold DX8_readAfter DX19_addAfter fX8_readAfter_b55 fX19_addAfter_b19 fX19_addAfter_b42
  rcases hr with ⟨q, q1, q2, q3, hk1, e1, e2, hL1, hH1⟩ | ⟨e1, e2, hX⟩
  rotate_left
  · rw [show DX8_toldName fu 0 2 A Lc = _ from e1, mb3_s, show DX19_named fu 3 M Lm = _ from e2, mb3_s, if_neg (show ¬ (0 : Int32) ≤ -1 by decide), if_pos (show (-1 : Int32) < 0 by decide)]
    unfold DX8_statesOf
    simp only [nf_told (Fx_n hX), nf_number (Fx_n hX), nf_end (Fx_n hX), mb3_s, mb2_s, if_neg (Fx_n hX)]
    exact rl_bad hP (by omega) (by omega) fa1 fm1 hX rfl rfl
  have hx : q.2.2.2.2 < X := by
    rcases (nB.2 q q1).2 q2 with g | g | g | g <;> omega
  rw [show DX8_toldName fu 0 2 A Lc = _ from e1, mb3_s, show DX19_named fu 3 M Lm = _ from e2, mb3_s, if_pos (ge_s (by omega)), st_of, mb3_s]
  generalize hx' : q.2.2.2.2 = x at *
  have N1 := NaR_f pN (A' := A1) (M' := M1) (fun x y u => fa1 x y (by omega)) (fun x y u => fm1 x y (by omega) (by omega) (by omega))
  obtain ⟨A2, M2, f3, f4, hr⟩ := st_stt (fu := fu) (Lc := Lc) (Lm := Lm) hfu hL1 N1 hx
  have fa2 : fWn A A2 := fun x y u => by rw [f3 x y (by omega), fa1 x y u]
  have fm2 : fG T S M M2 := fun x y u1 u2 u3 => by rw [f4 x y (by omega), fm1 x y u1 u2 u3]
  rcases hr with ⟨i, hi, hk2, e3, e4, hL2, hH2⟩ | ⟨e3, e4, hX⟩
  rotate_left
  · rw [e3, mb3_s, e4, mb3_s, if_pos (show (-1 : Int32) < 0 by decide)]
    simp only [nf_number (Fx_n hX), nf_end (Fx_n hX), mb3_s, mb2_s, if_neg (Fx_n hX)]
    exact rl_bad hP (by omega) (by omega) fa2 fm2 hX rfl rfl
  have hi200 := (N1.2.2.2.2 x hx).1.2.1
  rw [e3, mb3_s, e4, mb3_s, if_neg (ns_s (by omega))]
  obtain ⟨A3, M3, f5, f6, hr⟩ := st_number (fu := fu) (Lc := Lc) (Lm := Lm) (a1 := sI 1) (a2 := sI 20000) hfu hL2
  have fa3 : fWn A A3 := fun x y u => by rw [f5 x y (by omega), fa2 x y u]
  have fm3 : fG T S M M3 := fun x y u1 u2 u3 => by rw [f6 x y (by omega), fm2 x y u1 u2 u3]
  rcases hr with ⟨hk3, z1, z2, z3, e5, e6, e7, hL3, _⟩ | ⟨e5, e6, hX⟩
  rotate_left
  · rw [show DX8_number fu 1 20000 A2 Lc = _ from e5, mb3_s, show DX19_number fu 1 20000 M2 Lm = _ from e6, mb3_s, if_pos (show (0 : Int32) = 0 from rfl)]
    simp only [nf_end (Fx_n hX), mb3_s, mb2_s, if_neg (Fx_n hX)]
    exact rl_bad hP (by omega) (by omega) fa3 fm3 hX rfl rfl
  obtain ⟨l, z4, z5, z6⟩ := nu_nat (lo := 1) (hi := 20000) z1 z2 z3 (by omega) (by omega)
  rw [z4] at e5 e7
  rw [show DX8_number fu 1 20000 A2 Lc = _ from e5, mb3_s, show DX19_number fu 1 20000 M2 Lm = _ from e6, mb3_s, if_neg (show ¬ (1 : Int32) = 0 by decide)]
  obtain ⟨A4, M4, f7, f8, hr⟩ := st_eol (fu := fu) (Lc := Lc) (Lm := Lm) hfu hL3
  have fa4 : fWn A A4 := fun x y u => by rw [f7 x y (by omega), fa3 x y u]
  have fm4 : fG T S M M4 := fun x y u1 u2 u3 => by rw [f8 x y (by omega), fm3 x y u1 u2 u3]
  rcases hr with ⟨hk4, e8, e9, hL4⟩ | ⟨e8, e9, hX⟩
  rotate_left
  · rw [e8, mb2_s, if_neg (Fx_n hX), e9, mb3_s, if_pos (show (0 : Int32) = 0 from rfl)]
    exact rl_bad hP (by omega) (by omega) fa4 fm4 hX rfl rfl
  have l9 := hL4.2.2.2.2.2.2.2.2
  have hP4 := PR_f hP (A' := A4) (M' := M4) (fun a y u => fa4 a y (by omega)) (fun a y u1 u2 u3 => fm4 a y (by omega) u2 u3)
  have g7 : A4 1 7 = sI b := by rw [fa4 _ _ (by omega)]; exact h7
  have g8 : M4 732 8 = sI b := by rw [fm4 _ _ (by omega) (by omega) (by omega)]; exact h8
  have m13 : M4 732 13 = sI l := by rw [f8 _ _ (by omega)]; exact e7
  rw [e8, mb2_s, if_pos l9, mck_s (show x < 12 by omega) (by omega), sI_nn (by omega), e9, mb3_s, if_neg (show ¬ (1 : Int32) = 0 by decide), mck_s (show x < 12 by omega) (by omega), m13, sI_L (by omega)]
  obtain ⟨v1, v2, v3, v4, v5, c, va, D, xx, v6, v7, v8, v9, v10, v11, v12, v13⟩ := (hP4.2.2.1.2.2.2.1 x hx).2.2.2
  obtain ⟨rc, A5, Lc5, i1, i2⟩ := wq_e3 (c_setTicks (fu := fu) (k := 293 + 36 * x) (s := i + 1) (n := l) v6 v7 (by omega))
  obtain ⟨rm, M5, Lm5, j1, j2, j3, j4⟩ := wq_e3 (m_after (fu := fu) (q := 964 + 53 * x) (s := i + 1) (n := l) v6 v8 v9 (by omega) (by omega))
  dsimp only at i2 j2 j3 j4
  rw [i1, mb3_s, j1, mb3_s]
  by_cases cc : 2 ≤ c 2 (i + 1)
  · rw [if_pos cc] at i2 j4
    obtain ⟨rfl, rfl, rfl⟩ : rc = -2 ∧ A5 = A4 ∧ Lc5 = Lc := by
      injection i2 with x1 x2
      injection x2 with x2 x3
      exact ⟨x1, x2, x3⟩
    obtain ⟨rfl, j5, j6⟩ := j4
    have l8 : M5 732 8 = sI b := by rw [j2 _ _ (by omega)]; exact g8
    rw [c_heed l9 g7 (by decide), mb2_s, m_fits l8 (by decide), mb3_s]
    exact rl_heed (x := x) hP4 (by omega) (by omega) fa4 fm4 hx hbn (fun p y u => j2 p y (by omega)) (fun p u => j3 p (by omega)) ⟨v1, v2, by rw [j2 _ _ (by omega)]; exact v3, by rw [j2 _ _ (by omega)]; exact v4, by rw [j3 _ (by omega)]; exact v5, c, va, D, xx, v6, v7, j5, j6, v10, v11, by rw [j2 _ _ (by omega)]; exact v12, v13⟩ rfl rfl
  · rw [if_neg cc] at i2 j4
    obtain ⟨rfl, rfl, i3, i4⟩ := i2
    obtain ⟨rfl, j5, j6⟩ := j4
    rw [c_heed0 (by omega), mb2_s, m_fits0 (by omega), mb3_s]
    exact rl_chart (x := x) hP4 (by omega) (by omega) fa4 fm4 hx l9 (fun p y u => i4 p y (by omega)) (i4 _ _ (by omega)) (fun p y u _ => j2 p y (by omega)) (fun _ _ => rfl) (fun p u => j3 p (by omega)) ⟨by rw [i4 _ _ (by omega)]; exact v1, by rw [i4 _ _ (by omega)]; exact v2, by rw [j2 _ _ (by omega)]; exact v3, by rw [j2 _ _ (by omega)]; exact v4, by rw [j3 _ (by omega)]; exact v5, ctk c (i + 1) l, va, D, xx, Cv_tk v6 (by omega), i3, j5, j6, v10, v11, by rw [j2 _ _ (by omega)]; exact v12, v13⟩ rfl rfl
/-! READING: the line of an edge -/
theorem nf_gd {fu : Nat} {x : Int32} {Kc : Int32 → mwM → mwL → Option (mwM × mwL)} {A : mwM} {L : mwL} (h : ¬ A 1 12 = 0) : gdC fu x Kc A L = Kc 0 A L := by
  unfold gdC
  rw [nf_opt h, mb3_s, if_pos (show (0 : Int32) = 0 from rfl), nf_end h, mb2_s]
noncomputable def edC (fu : Nat) (v1 v2 v3 v4 : Int32) (g : Int32) (A : mwM) (L : mwL) : Option (mwM × mwL) :=
  (if (A 1 12) = 0 then mck v1 12 (mb3 (DX2_addEdge fu ((293 + 36 * v1.toNatClampNeg)) v2 v3 v4 g A L) (fun r7 M5 L6 => mb2 (DX8_heed fu r7 M5 L6) (fun M8 L9 => fX8_readEdge_b116 fu M8 L9))) else fX8_readEdge_b116 fu A L)
noncomputable def edM (fu : Nat) (v1 v2 v3 v4 : Int32) (g : Int32) (M : mwM) (L : mwL) : Option (Int32 × mwM × mwL) :=
  mck v1 12 (mb3 (DX13_edge fu ((964 + 53 * v1.toNatClampNeg)) v2 v3 v4 g M L) (fun r27 M25 L26 => mb3 (DX19_fits fu r27 M25 L26) (fun r30 M28 L29 => (if r30 = 0 then some (0, M28, L29) else mck v1 12 (mlet (mset M28 750 (v1.toNatClampNeg) r27) (fun M33 => some (1, M33, L29))))))) 
theorem ed_c {fu : Nat} {A : mwM} {L : mwL} : DX8_readEdge fu A L = mb3 (DX8_toldName fu 0 2 A L) (fun r12 M10 L11 => mb3 (DX8_statesOf fu r12 M10 L11) (fun r15 M13 L14 => mb3 (DX8_toldName fu r15 4 M13 L14) (fun r18 M16 L17 => mb3 (DX8_statesOf fu r12 M16 L17) (fun r21 M19 L20 => mb3 (DX8_toldName fu r21 4 M19 L20) (fun r24 M22 L23 => mb3 (DX8_eventOrTime fu r18 M22 L23) (fun r27 M25 L26 => gdC fu r12 (edC fu r12 r18 r24 r27) M25 L26)))))) := rfl
theorem ed_m {fu : Nat} {v1 v2 v3 v4 : Int32} {M : mwM} {L : mwL} : fX19_addEdge_b75 fu v1 v2 v3 v4 M L = gdM fu v1 (edM fu v1 v2 v3 v4) M L := rfl
theorem st_edge {fu n le a b C T X S K R W : Nat} {A M : mwM} {Lc Lm : mwL} {tx : Nat → Nat} {nl : List Nm} {ow ct : Nat → Nat} {sg : Nat → Nat → Nat} {tu : Nat → Bool} {ky rd wt : Nat → Nat → Nat} (hfu : 6100 ≤ fu) (h : Ld A M n tx le a) (hP : PR A M Lc Lm n C T X S K R W nl ow ct sg tu ky rd wt) (h7 : A 1 7 = sI b) (h8 : M 732 8 = sI b) (hbn : b ≤ 6000) (hl : 12 * nl.length ≤ a) (hk : 15 * K ≤ a) : RlQ A M Lc Lm n le (DX8_readEdge fu A Lc) (DX19_addEdge fu M Lm) := by
  obtain ⟨⟨c1, c2, c3⟩, pT, pX, pB, pS, pK, pR, pW, pN, nB⟩ := id hP
  have ha := h.2.2.2.2.2.2.2.1
  have hX12 := pX.2.2.1
  obtain ⟨A1, M1, f1, f2, hr⟩ := st_told (fu := fu) (Lc := Lc) (Lm := Lm) (k := 2) hfu h pN (by omega)
  have fa1 : fWn A A1 := fun x y u => f1 x y (by omega)
  have fm1 : fG T S M M1 := fun x y u1 u2 u3 => f2 x y (by omega)
  have bad : ∀ {v1 v2 v3 v4 g : Int32} {Ax : mwM}, ¬ Ax 1 12 = 0 → edC fu v1 v2 v3 v4 g Ax Lc = some (Ax, Lc) := fun hh => by
    unfold edC fX8_readEdge_b116
    rw [if_neg hh]
  rw [ed_c]
  unfold DX19_addEdge fX19_addEdge_b19 fX19_addEdge_b33
  rcases hr with ⟨q, q1, q2, q3, hk1, e1, e2, hL1, hH1⟩ | ⟨e1, e2, hX⟩
  rotate_left
  · rw [show DX8_toldName fu 0 2 A Lc = _ from e1, mb3_s, show DX19_named fu 3 M Lm = _ from e2, mb3_s, if_neg (show ¬ (0 : Int32) ≤ -1 by decide), if_neg (show ¬ (0 : Int32) ≤ -1 by decide), if_neg (show ¬ (0 : Int32) ≤ -1 by decide)]
    unfold DX8_statesOf
    simp only [nf_told (Fx_n hX), nf_event (Fx_n hX), nf_gd (Fx_n hX), mb3_s, bad (Fx_n hX)]
    exact rl_bad hP (by omega) (by omega) fa1 fm1 hX rfl rfl
  have hx : q.2.2.2.2 < X := by
    rcases (nB.2 q q1).2 q2 with g | g | g | g <;> omega
  rw [show DX8_toldName fu 0 2 A Lc = _ from e1, mb3_s, show DX19_named fu 3 M Lm = _ from e2, mb3_s, if_pos (ge_s (by omega)), st_of, mb3_s]
  generalize hx' : q.2.2.2.2 = x at *
  have N1 := NaR_f pN (A' := A1) (M' := M1) (fun x y u => fa1 x y (by omega)) (fun x y u => fm1 x y (by omega) (by omega) (by omega))
  obtain ⟨A2, M2, f3, f4, hr⟩ := st_stt (fu := fu) (Lc := Lc) (Lm := Lm) hfu hL1 N1 hx
  have fa2 : fWn A A2 := fun x y u => by rw [f3 x y (by omega), fa1 x y u]
  have fm2 : fG T S M M2 := fun x y u1 u2 u3 => by rw [f4 x y (by omega), fm1 x y u1 u2 u3]
  rcases hr with ⟨i, hi, hk2, e3, e4, hL2, hH2⟩ | ⟨e3, e4, hX⟩
  rotate_left
  · rw [e3, mb3_s, e4, mb3_s, if_neg (show ¬ (0 : Int32) ≤ -1 by decide), if_neg (show ¬ (0 : Int32) ≤ -1 by decide)]
    unfold DX8_statesOf
    simp only [nf_told (Fx_n hX), nf_event (Fx_n hX), nf_gd (Fx_n hX), mb3_s, bad (Fx_n hX)]
    exact rl_bad hP (by omega) (by omega) fa2 fm2 hX rfl rfl
  have hi200 := (N1.2.2.2.2 x hx).1.2.1
  rw [e3, mb3_s, e4, mb3_s, if_pos (ge_s (by omega)), st_of, mb3_s]
  have N2 := NaR_f pN (A' := A2) (M' := M2) (fun x y u => fa2 x y (by omega)) (fun x y u => fm2 x y (by omega) (by omega) (by omega))
  obtain ⟨A3, M3, f5, f6, hr⟩ := st_stt (fu := fu) (Lc := Lc) (Lm := Lm) hfu hL2 N2 hx
  have fa3 : fWn A A3 := fun x y u => by rw [f5 x y (by omega), fa2 x y u]
  have fm3 : fG T S M M3 := fun x y u1 u2 u3 => by rw [f6 x y (by omega), fm2 x y u1 u2 u3]
  rcases hr with ⟨i2, hi2, hk3, e5, e6, hL3, hH3⟩ | ⟨e5, e6, hX⟩
  rotate_left
  · rw [e5, mb3_s, e6, mb3_s, if_neg (show ¬ (0 : Int32) ≤ -1 by decide)]
    simp only [nf_event (Fx_n hX), nf_gd (Fx_n hX), mb3_s, bad (Fx_n hX)]
    exact rl_bad hP (by omega) (by omega) fa3 fm3 hX rfl rfl
  rw [e5, mb3_s, e6, mb3_s, if_pos (ge_s (by omega)), mlet_e, show (1000 : Int32) + sI (i + 1) = sI (1000 + (i + 1)) from sI_lad]
  obtain ⟨A4, M4, f7, f8, hr⟩ := st_event (fu := fu) (f := i + 1) (Lc := Lc) (Lm := Lm) (fun ev M L => fX19_addEdge_b75 fu (sI x) (sI (i + 1)) (sI (i2 + 1)) ev M L) hfu hL3 (by omega)
  have fa4 : fWn A A4 := fun x y u => by rw [f7 x y (by omega), fa3 x y u]
  have fm4 : fG T S M M4 := fun x y u1 u2 u3 => by rw [f8 x y (by omega), fm3 x y u1 u2 u3]
  rcases hr with ⟨ev, hev, hk4, e7, e8, hL4⟩ | ⟨e7, e8, hX⟩
  rotate_left
  · rw [e7, mb3_s, e8, nf_gd (Fx_n hX), bad (Fx_n hX)]
    exact rl_bad hP (by omega) (by omega) fa4 fm4 hX rfl rfl
  rw [e7, mb3_s, e8, ed_m]
  have N4 := NaR_f pN (A' := A4) (M' := M4) (fun x y u => fa4 x y (by omega)) (fun x y u => fm4 x y (by omega) (by omega) (by omega))
  obtain ⟨A5, M5, f9, f10, hr⟩ := st_guard (fu := fu) (Lc := Lc) (Lm := Lm) (edC fu (sI x) (sI (i + 1)) (sI (i2 + 1)) (sI ev)) (edM fu (sI x) (sI (i + 1)) (sI (i2 + 1)) (sI ev)) hfu hL4 N4 hx
  have fa5 : fWn A A5 := fun x y u => by rw [f9 x y (by omega), fa4 x y u]
  have fm5 : fG T S M M5 := fun x y u1 u2 u3 => by rw [f10 x y (by omega), fm4 x y u1 u2 u3]
  rcases hr with ⟨g, a', hg1, hg2, e9, e10, ha', hL5⟩ | ⟨g, e9, e10, hX⟩
  rotate_left
  · rw [e9, e10, bad (Fx_n hX)]
    exact rl_bad hP (by omega) (by omega) fa5 fm5 hX rfl rfl
  have l9 := hL5.2.2.2.2.2.2.2.2
  have hP5 := PR_f hP (A' := A5) (M' := M5) (fun a y u => fa5 a y (by omega)) (fun a y u1 u2 u3 => fm5 a y (by omega) u2 u3)
  have g7 : A5 1 7 = sI b := by rw [fa5 _ _ (by omega)]; exact h7
  have g8 : M5 732 8 = sI b := by rw [fm5 _ _ (by omega) (by omega) (by omega)]; exact h8
  rw [e9, e10]
  unfold edC edM fX8_readEdge_b116
  rw [if_pos l9, mck_s (show x < 12 by omega) (by omega), mck_s (show x < 12 by omega) (by omega), sI_nn (by omega)]
  obtain ⟨v1, v2, v3, v4, v5, c, va, D, xx, v6, v7, v8, v9, v10, v11, v12, v13⟩ := (hP5.2.2.1.2.2.2.1 x hx).2.2.2
  obtain ⟨rc, A6, Lc6, i1, i3⟩ := wq_e3 (c_addEdge (fu := fu) (k := 293 + 36 * x) (f := i + 1) (t := i2 + 1) (e := ev) (g := g) v6 v7 (by omega))
  obtain ⟨rm, M6, Lm6, j1, j2, j3, j4⟩ := wq_e3 (m_edge (fu := fu) (q := 964 + 53 * x) (f := i + 1) (t := i2 + 1) (e := ev) (g := g) v6 v8 v9 (by omega) (by omega) (by omega) hg1 hg2)
  dsimp only at i3 j2 j3 j4
  subst j2
  rw [i1, mb3_s, j1, mb3_s]
  have badz : ∀ r : Int32, ¬ (0 : Int32) ≤ r → rc = r → A6 = A5 → Lc6 = Lc → rm = r → ReM (964 + 53 * x) M6 Lm6 c b00 va D xx → ClM (964 + 53 * x) M6 Lm6 c → RlQ A M Lc Lm6 n le (mb2 (DX8_heed fu rc A6 Lc6) (fun M8 L9 => some (M8, L9))) (mb3 (DX19_fits fu rm M6 Lm6) (fun r30 M28 L29 => (if r30 = 0 then some (0, M28, L29) else mck (sI x) 12 (mlet (mset M28 750 x rm) (fun M33 => some (1, M33, L29)))))) := fun r hr y1 y2 y3 y4 y5 y6 => by
    subst y1 y2 y3 y4
    have l8 : M6 732 8 = sI b := by rw [j3 _ _ (by omega)]; exact g8
    rw [c_heed l9 g7 hr, mb2_s, m_fits l8 hr, mb3_s, if_pos (show (0 : Int32) = 0 from rfl)]
    exact rl_heed (x := x) hP5 (by omega) (by omega) fa5 fm5 hx hbn (fun p y u => j3 p y (by omega)) (fun p u => rfl) ⟨v1, v2, by rw [j3 _ _ (by omega)]; exact v3, by rw [j3 _ _ (by omega)]; exact v4, v5, c, va, D, xx, v6, v7, y5, y6, v10, v11, by rw [j3 _ _ (by omega)]; exact v12, v13⟩ rfl rfl
  by_cases cc : c 2 (i + 1) = 2 ∨ c 2 (i + 1) = 3
  · rw [if_pos cc] at i3 j4
    injection i3 with x1 x2
    injection x2 with x2 x3
    exact badz (-2) (by decide) x1 x2 x3 j4.1 j4.2.1 j4.2.2
  · rw [if_neg cc] at i3 j4
    by_cases c4 : 400 ≤ c 0 1
    · rw [if_pos c4] at i3 j4
      injection i3 with x1 x2
      injection x2 with x2 x3
      exact badz (-4) (by decide) x1 x2 x3 j4.1 j4.2.1 j4.2.2
    · rw [if_neg c4] at i3 j4
      obtain ⟨rfl, rfl, i4, i5⟩ := i3
      obtain ⟨rfl, j5, j6⟩ := j4
      rw [c_heed0 (by omega), mb2_s, m_fits0 (by omega), mb3_s, if_neg (show ¬ (1 : Int32) = 0 by decide), mck_s (show x < 12 by omega) (by omega), mlet_e]
      refine rl_chart (x := x) hP5 (by omega) (by omega) fa5 fm5 hx l9 (fun p y u => i5 p y (by omega) (by omega)) (i5 _ _ (by omega) (by omega)) (fun p y u1 u2 => by rw [mset_n (by omega), j3 p y (by omega)]) (fun _ _ => rfl) (fun _ _ => rfl) ⟨by rw [i5 _ _ (by omega) (by omega)]; exact v1, by rw [i5 _ _ (by omega) (by omega)]; exact v2, by rw [mset_n (by omega), j3 _ _ (by omega)]; exact v3, by rw [mset_n (by omega), j3 _ _ (by omega)]; exact v4, v5, ced c (i + 1) (i2 + 1) ev g, va, D, xx, Cv_ed v6 (by omega) (by omega) cc c4 (by omega) hg1 hg2, i4, ReM_f j5 (fun p y u1 u2 _ => mset_n (by omega)) (fun _ _ _ => rfl), ClM_f j6 (fun p y u1 u2 _ => mset_n (by omega)) (fun _ _ _ => rfl), v10, v11, ?_, fun s hs => v13 s hs⟩ rfl rfl
      rw [mset_s]
      rfl
/-! READING: the line of an act -/
theorem nf_b36 {fu : Nat} {a1 v2 s0 : Int32} {A : mwM} {L : mwL} (h : ¬ A 1 12 = 0) : fX8_readAct_b36 fu a1 v2 s0 A L = some (A, L) := by
  unfold fX8_readAct_b36 DX8_dataOf fX8_readAct_b101
  simp only [nf_told h, nf_number h, nf_opt h, nf_end h, mb3_s, mb2_s, if_neg h]
theorem st_actT {fu n le a b C T X S K R W x w o : Nat} {A0 M0 A M : mwM} {Lc Lm : mwL} {tx : Nat → Nat} {nl : List Nm} {ow ct : Nat → Nat} {sg : Nat → Nat → Nat} {tu : Nat → Bool} {ky rd wt : Nat → Nat → Nat} (hfu : 6100 ≤ fu) (h : Ld A M n tx le a) (hP0 : PR A0 M0 Lc Lm n C T X S K R W nl ow ct sg tu ky rd wt) (fa0 : fWn A0 A) (fm0 : fG T S M0 M) (h7 : A0 1 7 = sI b) (h8 : M0 732 8 = sI b) (hbn : b ≤ 6000) (hl : 12 * nl.length ≤ a) (hk : 15 * K ≤ a) (hx : x < X) (hw : w ≤ 2) (ho : w ≠ 2 → o ≤ (nsL (1 + 2 * x) nl).length) (ho2 : w = 2 → A0 (293 + 36 * x) 8 = sI o ∧ o ≤ 400) : RlQ A0 M0 Lc Lm n le (fX8_readAct_b36 fu (sI w) (sI x) (sI o) A Lc) (fX19_addAct_b33 fu (sI w) (sI x) (sI o) M Lm) := by
  have hP := PR_f hP0 (A' := A) (M' := M) (fun a y u => fa0 a y (by omega)) (fun a y u1 u2 u3 => fm0 a y (by omega) u2 u3)
  obtain ⟨⟨c1, c2, c3⟩, pT, pX, pB, pS, pK, pR, pW, pN, nB⟩ := id hP
  have ha := h.2.2.2.2.2.2.2.1
  have hX12 := pX.2.2.1
  have hi200 := (pN.2.2.2.2 x hx).1.2.1
  have ho400 : o ≤ 400 := by
    by_cases cw : w = 2
    · exact (ho2 cw).2
    · have := ho cw
      omega
  unfold fX8_readAct_b36 fX19_addAct_b33 fX19_addAct_b47 fX8_readAct_b101 fX19_addAct_b67 fX19_addAct_b129 fX19_addAct_b130
  rw [da_of, mb3_s, if_pos (ge_s (by omega))]
  obtain ⟨A1, M1, f1, f2, hr⟩ := st_dat (fu := fu) (Lc := Lc) (Lm := Lm) hfu h pN hx
  have fa1 : fWn A0 A1 := fun x y u => by rw [f1 x y (by omega), fa0 x y u]
  have fm1 : fG T S M0 M1 := fun x y u1 u2 u3 => by rw [f2 x y (by omega), fm0 x y u1 u2 u3]
  rcases hr with ⟨d, hd, hk1, e1, e2, hL1, _⟩ | ⟨e1, e2, hX⟩
  rotate_left
  · rw [e1, mb3_s, e2, mb3_s, if_pos (show (-1 : Int32) < 0 by decide)]
    simp only [nf_number (Fx_n hX), nf_opt (Fx_n hX), nf_end (Fx_n hX), mb3_s, mb2_s, if_neg (Fx_n hX)]
    exact rl_bad hP0 (by omega) (by omega) fa1 fm1 hX rfl rfl
  have hd32 := (pN.2.2.2.2 x hx).2.2.1
  rw [e1, mb3_s, e2, mb3_s, if_neg (ns_s (by omega))]
  obtain ⟨A2, M2, f3, f4, hr⟩ := st_number (fu := fu) (Lc := Lc) (Lm := Lm) (a1 := -999999999) (a2 := 999999999) hfu hL1
  have fa2 : fWn A0 A2 := fun x y u => by rw [f3 x y (by omega), fa1 x y u]
  have fm2 : fG T S M0 M2 := fun x y u1 u2 u3 => by rw [f4 x y (by omega), fm1 x y u1 u2 u3]
  rcases hr with ⟨hk2, z1, z2, z3, e3, e4, e5, hL2, _⟩ | ⟨e3, e4, hX⟩
  rotate_left
  · rw [e3, mb3_s, e4, mb3_s, if_pos (show (0 : Int32) = 0 from rfl)]
    simp only [nf_opt (Fx_n hX), nf_end (Fx_n hX), mb3_s, mb2_s, if_neg (Fx_n hX)]
    exact rl_bad hP0 (by omega) (by omega) fa2 fm2 hX rfl rfl
  rw [e3, mb3_s, e4, mb3_s, if_neg (show ¬ (1 : Int32) = 0 by decide), mlet_e, e5]
  generalize nuV tx (nwB tx le (nwE tx le a)) (nwE tx le (nwE tx le a) - nwB tx le (nwE tx le a)) = v
  obtain ⟨ad, A3, M3, e6, e7, f5, f6, hh⟩ := st_optEnd (fu := fu) (i := 4) (Lc := Lc) (Lm := Lm) hfu hL2 ok_more ch_more rfl (by decide)
  obtain ⟨A4, M4, f7, f8, hr⟩ := hh M3 (fun _ _ _ => rfl)
  have fa4 : fWn A0 A4 := fun x y u => by rw [f7 x y (by omega), f5 x y (by omega), fa2 x y u]
  have fm4 : fG T S M0 M4 := fun x y u1 u2 u3 => by rw [f8 x y (by omega), f6 x y (by omega), fm2 x y u1 u2 u3]
  rw [e6, mb3_s, e7, mb3_s]
  rcases hr with ⟨e8, e9, a3, ha3, hL4⟩ | ⟨e8, e9, hX⟩
  rotate_left
  · rw [e8, mb2_s, if_neg (Fx_n hX), e9, mb3_s, if_pos (show (0 : Int32) = 0 from rfl)]
    exact rl_bad hP0 (by omega) (by omega) fa4 fm4 hX rfl rfl
  have l9 := hL4.2.2.2.2.2.2.2.2
  have hP4 := PR_f hP0 (A' := A4) (M' := M4) (fun a y u => fa4 a y (by omega)) (fun a y u1 u2 u3 => fm4 a y (by omega) u2 u3)
  have g7 : A4 1 7 = sI b := by rw [fa4 _ _ (by omega)]; exact h7
  have g8 : M4 732 8 = sI b := by rw [fm4 _ _ (by omega) (by omega) (by omega)]; exact h8
  obtain ⟨v1, v2, v3, v4, v5, c, va, D, xx, v6, v7, v8, v9, v10, v11, v12, v13⟩ := (hP4.2.2.1.2.2.2.1 x hx).2.2.2
  have o3 : w = 2 → o = c 0 1 := fun cw => by
    have q1 := (ho2 cw).1
    rw [← fa4 _ _ (by omega)] at q1
    have q2 : A4 (293 + 36 * x) 8 = sI (c 0 1) := v7.2.1.1
    have q3 := v6.2.1.1
    rw [q2, sI_eq (by omega) (by omega)] at q1
    exact q1.symm
  rw [e8, mb2_s, if_pos l9, mck_s (show x < 12 by omega) (by omega), e9, mb3_s, if_neg (show ¬ (1 : Int32) = 0 by decide), mck_s (show x < 12 by omega) (by omega), sI_nn (by omega)]
  have hty : (if bI ad = (0 : Int32) then fX19_addAct_b111 fu (sI w) (sI d) v (964 + 53 * x + 0) (sI o) (sI w) M4 Lm else fX19_addAct_b111 fu (sI w) (sI d) v (964 + 53 * x + 0) (sI o) (sI w + 3) M4 Lm) = fX19_addAct_b111 fu (sI w) (sI d) v (964 + 53 * x) (sI o) (sI (w + 3 * (if ad = true then 1 else 0))) M4 Lm := by
    cases ad with
    | false => rw [bI_f, if_pos (show (0 : Int32) = 0 from rfl), if_neg (by decide)]; rfl
    | true => rw [bI_t, if_neg (show ¬ (1 : Int32) = 0 by decide), if_pos rfl, show sI w + 3 = sI (w + 3 * 1) from sI_add (a := w) (b := 3)]; rfl
  rw [hty]
  unfold fX19_addAct_b111 fX19_addAct_b129 fX19_addAct_b130
  obtain ⟨rc, A5, Lc5, i1, i3⟩ := wq_e3 (c_addAct (fu := fu) (k := 293 + 36 * x) (o := o) (w := w) (m := d) (v := v) (ad := ad) v6 v7 ho400 (fun cw => by rw [v10]; exact ho cw) hw (by omega))
  obtain ⟨rm, M5, Lm5, j1, j2, j3, j4⟩ := wq_e3 (m_act (fu := fu) (q := 964 + 53 * x) (o := o) (w := w) (m := d) (v := v) (ad := ad) v6 v8 v9 ho400 (fun cw => by rw [v10]; exact ho cw) (fun cw => by rw [o3 cw]; exact Nat.le_refl _) hw (by omega))
  dsimp only at i3 j2 j3 j4
  rw [i1, mb3_s, j1, mb3_s]
  have badz : ∀ r : Int32, ¬ (0 : Int32) ≤ r → rc = r → A5 = A4 → Lc5 = Lc → rm = r → ReM (964 + 53 * x) M5 Lm5 c b00 va D xx → ClM (964 + 53 * x) M5 Lm5 c → RlQ A0 M0 Lc Lm n le (mb2 (DX8_heed fu rc A5 Lc5) (fun M20 L21 => some (M20, L21))) (mb3 (DX19_fits fu rm M5 Lm5) (fun r25 M23 L24 => (if r25 = 0 then mzz 0 (some (0, M23, L24)) else mzz 1 (some (1, M23, L24))))) := fun r hr y1 y2 y3 y4 y5 y6 => by
    subst y1 y2 y3 y4
    have l8 : M5 732 8 = sI b := by rw [j3 _ _ (by omega)]; exact g8
    rw [c_heed l9 g7 hr, mb2_s, m_fits l8 hr, mb3_s, if_pos (show (0 : Int32) = 0 from rfl)]
    exact rl_heed (x := x) hP4 (by omega) (by omega) fa4 fm4 hx hbn (fun p y u => j3 p y (by omega)) (fun p u => j2 p (by omega)) ⟨v1, v2, by rw [j3 _ _ (by omega)]; exact v3, by rw [j3 _ _ (by omega)]; exact v4, by rw [j2 _ (by omega)]; exact v5, c, va, D, xx, v6, v7, y5, y6, v10, v11, by rw [j3 _ _ (by omega)]; exact v12, v13⟩ rfl rfl
  by_cases c0 : o = 0
  · rw [if_pos c0] at i3 j4
    injection i3 with x1 x2
    injection x2 with x2 x3
    exact badz (-1) (by decide) x1 x2 x3 j4.1 j4.2.1 j4.2.2
  rw [if_neg c0] at i3 j4
  by_cases c2 : w ≠ 2 ∧ 2 ≤ c 2 o
  · rw [if_pos c2] at i3 j4
    injection i3 with x1 x2
    injection x2 with x2 x3
    exact badz (-2) (by decide) x1 x2 x3 j4.1 j4.2.1 j4.2.2
  rw [if_neg c2] at i3 j4
  by_cases c6 : 600 ≤ c 0 2
  · rw [if_pos c6] at i3 j4
    injection i3 with x1 x2
    injection x2 with x2 x3
    exact badz (-4) (by decide) x1 x2 x3 j4.1 j4.2.1 j4.2.2
  rw [if_neg c6] at i3 j4
  obtain ⟨rfl, rfl, i4, i5⟩ := i3
  obtain ⟨rfl, j5, j6⟩ := j4
  rw [c_heed0 (by omega), mb2_s, m_fits0 (by omega), mb3_s, if_neg (show ¬ (1 : Int32) = 0 by decide)]
  have ad1 : (if ad = true then 1 else 0) ≤ 1 := by cases ad <;> decide
  exact rl_chart (x := x) hP4 (by omega) (by omega) fa4 fm4 hx l9 (fun p y u => i5 p y (by omega) (by omega)) (i5 _ _ (by omega) (by omega)) (fun p y u1 u2 => j3 p y (by omega)) (fun _ _ => rfl) (fun p u => j2 p (by omega)) ⟨by rw [i5 _ _ (by omega) (by omega)]; exact v1, by rw [i5 _ _ (by omega) (by omega)]; exact v2, by rw [j3 _ _ (by omega)]; exact v3, by rw [j3 _ _ (by omega)]; exact v4, by rw [j2 _ (by omega)]; exact v5, cax c o w d (if ad = true then 1 else 0), vax va (c 0 2) v, D, xx, Cv_ax v6 ho400 (by
    by_cases cw : w = 2
    · exact Or.inl cw
    · have := ho cw
      exact Or.inr (by omega)) hw (by omega) ad1 c6, i4, j5, j6, v10, v11, by rw [j3 _ _ (by omega)]; exact v12, v13⟩ rfl rfl
/-! READING: the line of an act, whole -/
theorem nm_b33 {fu : Nat} {a1 v2 : Int32} {M : mwM} {L : mwL} : fX19_addAct_b33 fu a1 v2 (-1) M L = some (0, M, L) := by
  unfold fX19_addAct_b33
  rw [if_neg (show ¬ (0 : Int32) ≤ -1 by decide)]
  unfold fX19_addAct_b47
  rw [if_pos (show (-1 : Int32) < 0 by decide)]
  rfl
theorem nf_actG {fu : Nat} {a1 z : Int32} {A : mwM} {L : mwL} (h : ¬ A 1 12 = 0) : mck 0 12 (fX8_readAct_b36 fu a1 0 z A L) = some (A, L) := by
  rw [nf_b36 h, show (0 : Int32) = sI 0 from rfl, mck_s (by omega) (by omega)]
theorem nf_actH {fu : Nat} {a1 : Int32} {A : mwM} {L : mwL} (h : ¬ A 1 12 = 0) : mb3 (DX8_statesOf fu 0 A L) (fun r28 M26 L27 => mb3 (DX8_toldName fu r28 4 M26 L27) (fun r31 M29 L30 => fX8_readAct_b36 fu a1 0 r31 M29 L30)) = some (A, L) := by
  unfold DX8_statesOf
  rw [mb3_s, nf_told h, mb3_s, nf_b36 h]
/-! READING: the line of an act, whole -/
theorem st_act {fu n le a b C T X S K R W w : Nat} {A M : mwM} {Lc Lm : mwL} {tx : Nat → Nat} {nl : List Nm} {ow ct : Nat → Nat} {sg : Nat → Nat → Nat} {tu : Nat → Bool} {ky rd wt : Nat → Nat → Nat} (hfu : 6100 ≤ fu) (h : Ld A M n tx le a) (hP : PR A M Lc Lm n C T X S K R W nl ow ct sg tu ky rd wt) (h7 : A 1 7 = sI b) (h8 : M 732 8 = sI b) (hbn : b ≤ 6000) (hl : 12 * nl.length ≤ a) (hk : 15 * K ≤ a) (hw : w ≤ 2) : RlQ A M Lc Lm n le (DX8_readAct fu (sI w) A Lc) (DX19_addAct fu (sI w) M Lm) := by
  obtain ⟨⟨c1, c2, c3⟩, pT, pX, pB, pS, pK, pR, pW, pN, nB⟩ := id hP
  have ha := h.2.2.2.2.2.2.2.1
  have hX12 := pX.2.2.1
  obtain ⟨A1, M1, f1, f2, hr⟩ := st_told (fu := fu) (Lc := Lc) (Lm := Lm) (k := 2) hfu h pN (by omega)
  have fa1 : fWn A A1 := fun x y u => f1 x y (by omega)
  have fm1 : fG T S M M1 := fun x y u1 u2 u3 => f2 x y (by omega)
  have w2 : (sI w = (2 : Int32)) ↔ w = 2 := by rw [show (2 : Int32) = sI 2 from rfl, sI_eq (by omega) (by omega)]
  unfold DX8_readAct DX19_addAct
  rcases hr with ⟨q, q1, q2, q3, hk1, e1, e2, hL1, hH1⟩ | ⟨e1, e2, hX⟩
  rotate_left
  · rw [show DX8_toldName fu 0 2 A Lc = _ from e1, mb3_s, show DX19_named fu 3 M Lm = _ from e2, mb3_s, if_neg (show ¬ (0 : Int32) ≤ -1 by decide)]
    rw [nm_b33]
    by_cases cw : w = 2
    · rw [if_pos (w2.mpr cw), nf_actG (Fx_n hX)]
      exact rl_bad hP (by omega) (by omega) fa1 fm1 hX rfl rfl
    · rw [if_neg (fun z => cw (w2.mp z)), nf_actH (Fx_n hX)]
      exact rl_bad hP (by omega) (by omega) fa1 fm1 hX rfl rfl
  have hx : q.2.2.2.2 < X := by
    rcases (nB.2 q q1).2 q2 with g | g | g | g <;> omega
  rw [show DX8_toldName fu 0 2 A Lc = _ from e1, mb3_s, show DX19_named fu 3 M Lm = _ from e2, mb3_s, if_pos (ge_s (by omega))]
  generalize hx' : q.2.2.2.2 = x at *
  have hb1 := nw_b (tx := tx) ha
  have hb1' := hb1.2.2.2.2.1 hk1
  by_cases cw : w = 2
  · rw [if_pos (w2.mpr cw), if_pos (w2.mpr cw), mck_s (show x < 12 by omega) (by omega), mck_s (show x < 12 by omega) (by omega), sI_nn (by omega)]
    obtain ⟨v1, v2, v3, v4, v5, c, va, D, xx, v6, v7, v8, v9, v10, v11, v12, v13⟩ := (hP.2.2.1.2.2.2.1 x hx).2.2.2
    have q2 : A (293 + 36 * x) 8 = sI (c 0 1) := v7.2.1.1
    have q3 := v6.2.1.1
    rw [show A1 (293 + 36 * x + 0) 8 = sI (c 0 1) by rw [show 293 + 36 * x + 0 = 293 + 36 * x from rfl, fa1 _ _ (by omega)]; exact q2, show M1 750 x = sI (c 0 1) by rw [fm1 _ _ (by omega) (by omega) (by omega)]; exact v12]
    exact st_actT hfu hL1 hP fa1 fm1 h7 h8 hbn (by omega) (by omega) hx hw (fun z => absurd cw z) (fun _ => ⟨q2, q3⟩)
  · rw [if_neg (fun z => cw (w2.mp z)), if_neg (fun z => cw (w2.mp z)), st_of, mb3_s]
    have N1 := NaR_f pN (A' := A1) (M' := M1) (fun x y u => fa1 x y (by omega)) (fun x y u => fm1 x y (by omega) (by omega) (by omega))
    obtain ⟨A2, M2, f3, f4, hr⟩ := st_stt (fu := fu) (Lc := Lc) (Lm := Lm) hfu hL1 N1 hx
    have fa2 : fWn A A2 := fun x y u => by rw [f3 x y (by omega), fa1 x y u]
    have fm2 : fG T S M M2 := fun x y u1 u2 u3 => by rw [f4 x y (by omega), fm1 x y u1 u2 u3]
    rcases hr with ⟨i, hi, hk2, e3, e4, hL2, hH2⟩ | ⟨e3, e4, hX⟩
    · rw [e3, mb3_s, e4, mb3_s]
      have hb2 := nw_b (tx := tx) hb1.2.2.2.1
      have hb2' := hb2.2.2.2.2.1 hk2
      exact st_actT hfu hL2 hP fa2 fm2 h7 h8 hbn (by omega) (by omega) hx hw (fun _ => by omega) (fun z => absurd z cw)
    · rw [e3, mb3_s, e4, mb3_s, nf_b36 (Fx_n hX)]
      rw [nm_b33]
      exact rl_bad hP (by omega) (by omega) fa2 fm2 hX rfl rfl
