/-! READING: a name must come that is known -/
def NaR (A M : mwM) (n X : Nat) (nl : List Nm) : Prop := NmC A nl ∧ NmO n nl ∧ NmM M (nsL 0 nl) ∧ X ≤ 12 ∧ ∀ x, x < X → NmS M x (nsL (1 + 2 * x) nl) ∧ NmD M x (nsL (2 + 2 * x) nl)
theorem NaR_f {A A' M M' : mwM} {n X : Nat} {nl : List Nm} (h : NaR A M n X nl) (hA : ∀ a y, (a = 1 ∧ y = 3) ∨ (726 ≤ a ∧ a ≤ 730) → A' a y = A a y) (hM : ∀ a y, (a = 732 ∧ y = 14) ∨ (734 ≤ a ∧ a ≤ 737) ∨ (754 ≤ a ∧ a ≤ 759) → M' a y = M a y) : NaR A' M' n X nl := by
  obtain ⟨⟨c1, c2, c3⟩, h2, ⟨m1, m2, m3⟩, hX, h5⟩ := h
  refine ⟨⟨by rw [hA _ _ (by omega)]; exact c1, c2, fun i hi => ?_⟩, h2, ⟨by rw [hM _ _ (by omega)]; exact m1, m2, fun k hk => ?_⟩, hX, fun x hx => ⟨?_, ?_⟩⟩
  · rw [hA _ _ (by omega), hA _ _ (by omega), hA _ _ (by omega), hA _ _ (by omega), hA _ _ (by omega)]
    exact c3 i hi
  · rw [hM _ _ (by omega), hM _ _ (by omega), hM _ _ (by omega), hM _ _ (by omega)]
    exact m3 k hk
  · obtain ⟨⟨s1, s2, s3⟩, _⟩ := h5 x hx
    refine ⟨by rw [hM _ _ (by omega)]; exact s1, s2, fun k hk => ?_⟩
    rw [hM _ _ (by omega), hM _ _ (by omega)]
    exact s3 k hk
  · obtain ⟨_, ⟨s1, s2, s3⟩⟩ := h5 x hx
    refine ⟨by rw [hM _ _ (by omega)]; exact s1, s2, fun k hk => ?_⟩
    rw [hM _ _ (by omega), hM _ _ (by omega)]
    exact s3 k hk
theorem nf_told {fu : Nat} {a1 a2 : Int32} {A : mwM} {L : mwL} (h : ¬ A 1 12 = 0) : DX8_toldName fu a1 a2 A L = some (0, A, L) := by
  unfold DX8_toldName
  rw [nf_fetch h, mb3_s, if_pos rfl]
/-- the class: what the word at hand means -/
theorem c_told {fu n w e σ k : Nat} {tx : Nat → Nat} {nl : List Nm} {A : mwM} {L : mwL} (hfu : 6100 ≤ fu) (hT : TxC A n tx) (h8 : A 1 8 = sI w) (h9 : A 1 9 = sI (e - w)) (hw : w < e) (he : e ≤ n) (h12 : A 1 12 = 0) (hN : NmC A nl) (hO : NmO n nl) (hσ : σ < 100) (hk : k < 10) : mb3 (DX8_findName fu (sI σ) A L) (fun r9 M7 L8 => (if r9 < 0 then fX8_toldName_b31 fu (sI σ) (sI k) M7 L8 else mck r9 600 ((if (M7 729 r9.toNatClampNeg) = sI k then mck r9 600 (some (M7 730 r9.toNatClampNeg, M7, L8)) else fX8_toldName_b31 fu (sI σ) (sI k) M7 L8)))) = match (nsL σ nl).find? (hitB tx w (e - w)) with
    | none => some (0, mset (mset A 1 12 (sI 4)) 1 13 (sI w), L)
    | some q => if q.2.2.2.1 = k then some (sI q.2.2.2.2, A, L) else some (0, mset (mset A 1 12 (sI 4)) 1 13 (sI w), L) := by
  have hn := hT.2.1
  have bad : fX8_toldName_b31 fu (sI σ) (sI k) A L = some (0, mset (mset A 1 12 (sI 4)) 1 13 (sI w), L) := by
    unfold fX8_toldName_b31
    rw [c_fail h12, mb2_s, h8]
    rfl
  obtain ⟨r, x1, x2⟩ := c_findName (fu := fu) (L := L) hfu hT h8 h9 (by omega) hN hO hσ
  rw [x1, mb3_s]
  rcases x2 with ⟨y1, y2⟩ | ⟨i, hi, y1, y2⟩
  · rw [y2, y1, if_pos (by decide), bad]
  · obtain ⟨a1, a2, a3, a4, a5⟩ := hN.2.2 i hi
    have hl := hN.2.1
    obtain ⟨o1, o2, o3, o4, o5⟩ := hO nl[i] (List.getElem_mem _)
    rw [y2, y1, if_neg (show ¬ sI i < 0 by rw [show (0 : Int32) = sI 0 from rfl, sI_lt (by omega) (by omega)]; omega), mck_s (by omega) (by omega), mck_s (by omega) (by omega), sI_nn (by omega), a4, a5, bad]
    dsimp only
    by_cases c : nl[i].2.2.2.1 = k
    · rw [if_pos c, if_pos (show sI nl[i].2.2.2.1 = sI k by rw [c])]
    · rw [if_neg c, if_neg (show ¬ sI nl[i].2.2.2.1 = sI k by rw [sI_eq (by omega) (by omega)]; exact c)]
theorem st_told {fu n le a k X : Nat} {A M : mwM} {Lc Lm : mwL} {tx : Nat → Nat} {nl : List Nm} (hfu : 6100 ≤ fu) (h : Ld A M n tx le a) (hN : NaR A M n X nl) (hk : k < 10) : ∃ A' M', fW A A' ∧ fR M M' ∧ ((∃ q, q ∈ nl ∧ q.1 = 0 ∧ q.2.2.2.1 = k ∧ nwK tx le a = true ∧ DX8_toldName fu 0 (sI k) A Lc = some (sI q.2.2.2.2, A', Lc) ∧ DX19_named fu (sI (k + 1)) M Lm = some (sI q.2.2.2.2, M', Lm) ∧ Ld A' M' n tx le (nwE tx le a) ∧ Hw A' M' (nwB tx le a) (nwE tx le a)) ∨ (DX8_toldName fu 0 (sI k) A Lc = some (0, A', Lc) ∧ DX19_named fu (sI (k + 1)) M Lm = some (-1, M', Lm) ∧ Fx A' M')) := by
  obtain ⟨A1, M1, f1, f2, hr⟩ := st_must (fu := fu) (Lc := Lc) (Lm := Lm) hfu h
  have hN1 : NaR A1 M1 n X nl := NaR_f hN (fun x y u => f1 x y (by omega)) (fun x y u => f2 x y (by omega))
  unfold DX8_toldName DX19_named
  rcases hr with ⟨hk', e1, e2, hL, hH⟩ | ⟨e1, e2, hX⟩
  · obtain ⟨w8, w9, m9, m10, hlt⟩ := id hH
    obtain ⟨l1, l2, l3, l4, l5, l6, l7, l8, l9⟩ := id hL
    obtain ⟨nC, nO, nM, nX, nS⟩ := hN1
    have hn := l1.2.1
    have ec := c_told (σ := 0) (k := k) (L := Lc) hfu l1 w8 w9 hlt (by omega) l9 nC nO (by omega) hk
    rw [e1, mb3_s, if_neg (show ¬ (1 : Int32) = 0 by decide), e2, mb3_s, if_neg (show ¬ (1 : Int32) = 0 by decide)]
    rw [show (0 : Int32) = sI 0 from rfl] at *
    rw [ec]
    obtain ⟨r, x1, x2⟩ := m_findName (fu := fu) (L := Lm) hfu l2 m9 m10 hlt (by omega) nM (NmO_s nO)
    have bad : ∃ A' M', fW A A' ∧ fR M M' ∧ some (sI 0, mset (mset A1 1 12 (sI 4)) 1 13 (sI (nwB tx le a)), Lc) = some (sI 0, A', Lc) ∧ fX19_named_b35 fu (sI (k + 1)) M1 Lm = some (-1, M', Lm) ∧ Fx A' M' := by
      refine ⟨_, _, ?_, ?_, rfl, ?_, Fx_i (k := 4) (w := nwB tx le a) (M := M1) (by omega) (by omega) (by omega)⟩
      · intro p y u
        rw [mset_n (by omega), mset_n (by omega), f1 p y u]
      · intro p y u
        rw [mset_n (by omega), mset_n (by omega), f2 p y u]
      · unfold fX19_named_b35
        rw [m_fail, mb3_s, m9]
        rfl
    rw [x1, mb3_s]
    rcases x2 with ⟨y1, y2⟩ | ⟨i, hi, y1, y2⟩
    · obtain ⟨A', M', b1, b2, b3, b4, b5⟩ := bad
      rw [y2, y1, if_pos (by decide)]
      exact ⟨A', M', b1, b2, Or.inr ⟨b3, b4, b5⟩⟩
    · obtain ⟨a1, a2, a3, a4⟩ := nM.2.2 i hi
      have hl := nM.2.1
      obtain ⟨q1, q2⟩ := ns_m (List.getElem_mem hi)
      obtain ⟨o1, o2, o3, o4, o5⟩ := nO _ q1
      rw [y2, y1, if_neg (show ¬ sI i < sI 0 by rw [sI_lt (by omega) (by omega)]; omega), mck_s (by omega) (by omega), mck_s (by omega) (by omega), sI_nn (by omega), a3, a4]
      dsimp only
      by_cases c : (nsL 0 nl)[i].2.2.2.1 = k
      · rw [if_pos c, if_pos (show sI ((nsL 0 nl)[i].2.2.2.1 + 1) = sI (k + 1) by rw [c])]
        exact ⟨A1, M1, f1, f2, Or.inl ⟨_, q1, q2, c, hk', rfl, rfl, hL, hH⟩⟩
      · obtain ⟨A', M', b1, b2, b3, b4, b5⟩ := bad
        rw [if_neg c, if_neg (show ¬ sI ((nsL 0 nl)[i].2.2.2.1 + 1) = sI (k + 1) by rw [sI_eq (by omega) (by omega)]; omega)]
        exact ⟨A', M', b1, b2, Or.inr ⟨b3, b4, b5⟩⟩
  · rw [e1, mb3_s, if_pos (show (0 : Int32) = 0 from rfl), e2, mb3_s, if_pos (show (0 : Int32) = 0 from rfl)]
    exact ⟨A1, M1, f1, f2, Or.inr ⟨rfl, rfl, hX⟩⟩
