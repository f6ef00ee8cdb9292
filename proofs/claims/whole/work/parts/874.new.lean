/-! READING: a new name within a chart -/
abbrev flM (M : mwM) (k w : Int32) : mwM := mset (mset M 732 11 k) 732 12 w
theorem m_newIn {fu n w e : Nat} {fl : Bool} {tx : Nat → Nat} {M : mwM} {L : mwL} (hfu : 6100 ≤ fu) (hT : TxM M n tx) (h9 : M 732 9 = sI w) (h10 : M 732 10 = sI e) (hw : w < e) (he : e ≤ n) : DX19_newIn fu (bI fl) M L = if nmB tx w (e - w) = true ∧ isW tx w (e - w) [116, 111, 112] = false then (if fl = true then some (0, flM M (sI 3) (sI w), L) else some (1, M, L)) else some (0, flM M (sI 2) (sI w), L) := by
  have hn := hT.2.1
  unfold DX19_newIn fX19_newIn_b18 fX19_newIn_b44 fX19_newIn_b49
  rw [m_isName hfu hT h9 h10 hw he, mb3_s]
  cases hnm : nmB tx w (e - w) with
  | false =>
    rw [bI_f, if_pos (show (0 : Int32) = 0 from rfl), m_fail, mb3_s, h9, if_neg (by simp)]
    rfl
  | true =>
    rw [bI_t, if_neg (show ¬ (1 : Int32) = 0 by decide), m_is9 (by omega) hT h9 h10 hw he ok_top, mb3_s]
    cases hi : isW tx w (e - w) [116, 111, 112] with
    | true =>
      rw [bI_t, if_neg (show ¬ (1 : Int32) = 0 by decide), m_fail, mb3_s, h9, if_neg (by simp)]
      rfl
    | false =>
      rw [bI_f, if_pos (show (0 : Int32) = 0 from rfl), if_pos (show true = true ∧ false = false from ⟨rfl, rfl⟩)]
      cases fl with
      | false =>
        rw [bI_f, if_pos (show (0 : Int32) = 0 from rfl), if_neg (by simp)]
        rfl
      | true =>
        rw [bI_t, if_neg (show ¬ (1 : Int32) = 0 by decide), m_fail, mb3_s, h9, if_pos (show (0 : Int32) = 0 from rfl), if_pos rfl]
        rfl
theorem fm_fr {M M1 : mwM} {k w : Int32} (h : fR M M1) : fR M (flM M1 k w) := fun x y u => by
  show mset (mset M1 732 11 k) 732 12 w x y = _
  rw [mset_n (by omega), mset_n (by omega), h x y u]
/-- the second half: a name found or not, then newIn -/
theorem st_newH {fu n le a σ : Nat} {fl : Bool} {A M M1 : mwM} {Lc Lm : mwL} {tx : Nat → Nat} {nl : List Nm} (G : mwM → mwL → Option (Int32 × mwM × mwL)) (hfu : 6100 ≤ fu) (h : Ld A M n tx le a) (hC : NmC A nl) (hO : NmO n nl) (h0 : 0 < σ) (hσ : σ < 100) (hk : nwK tx le a = true) (fm : fR M M1) (hM1 : TxM M1 n tx) (m6 : M1 732 6 = sI (nwE tx le a)) (m9 : M1 732 9 = sI (nwB tx le a)) (m10 : M1 732 10 = sI (nwE tx le a)) (hfl : fl = ((nsL σ nl).find? (hitB tx (nwB tx le a) (nwE tx le a - nwB tx le a))).isSome) : ∃ A' M', fWn A A' ∧ fR M M' ∧ ((DX8_newName fu (sI σ) 0 1 A Lc = some (A', Lc) ∧ mb3 (DX19_newIn fu (bI fl) M1 Lm) (fun r3 M1 L2 => if r3 = 0 then some (0, M1, L2) else G M1 L2) = G M' Lm ∧ Ld A' M' n tx le (nwE tx le a) ∧ Hw A' M' (nwB tx le a) (nwE tx le a) ∧ A' 1 10 = sI (nwB tx le a) ∧ A' 1 11 = sI (nwE tx le a - nwB tx le a)) ∨ (DX8_newName fu (sI σ) 0 1 A Lc = some (A', Lc) ∧ mb3 (DX19_newIn fu (bI fl) M1 Lm) (fun r3 M1 L2 => if r3 = 0 then some (0, M1, L2) else G M1 L2) = some (0, M', Lm) ∧ Fx A' M')) := by
  obtain ⟨hT, hM, h6, h7, hle, h5, h6', ha, h12⟩ := id h
  have hn := hT.2.1
  obtain ⟨b1, b2, b3, b4, b5, b6, b7, _⟩ := nw_b (tx := tx) ha
  have hlt := b5 hk
  obtain ⟨A1, g1, g12, g2, g3, g4, g5⟩ := c_newName (fu := fu) (σ := σ) (a2 := 0) (a3 := 1) (L := Lc) hfu hT h5 h6 ha hle h12 hC hO hσ
  obtain ⟨w5, w8, w9, w10, w11⟩ := g2 hk
  have fx : ∀ k : Nat, 1 ≤ k → k ≤ 8 → Fx (flA A1 (sI k) (sI (nwB tx le a))) (flM M1 (sI k) (sI (nwB tx le a))) := fun k k1 k2 => Fx_i k1 k2 (by omega)
  rw [m_newIn hfu hM1 m9 m10 hlt (by omega)]
  by_cases c : nmB tx (nwB tx le a) (nwE tx le a - nwB tx le a) = true ∧ isW tx (nwB tx le a) (nwE tx le a - nwB tx le a) [116, 111, 112] = false
  · rw [if_pos c, g5 hk c.1 (Or.inr c.2)]
    cases hf : (nsL σ nl).find? (hitB tx (nwB tx le a) (nwE tx le a - nwB tx le a)) with
    | none =>
      rw [hf] at hfl
      dsimp only
      rw [if_pos (show (0 : Int32) < 1 by decide), hfl, if_neg (by simp), mb3_s, if_neg (show ¬ (1 : Int32) = 0 by decide)]
      refine ⟨A1, M1, g1, fm, Or.inl ⟨rfl, rfl, ⟨TxC_f hT (fun x y u => g1 x y (by omega)), hM1, by rw [g1 _ _ (by omega)]; exact h6, by rw [fm _ _ (by omega)]; exact h7, hle, w5, m6, b4, g12⟩, ⟨w8, w9, m9, m10, hlt⟩, w10, w11⟩⟩
    | some q =>
      rw [hf] at hfl
      dsimp only
      rw [hfl, if_pos (by simp), mb3_s, if_pos (show (0 : Int32) = 0 from rfl)]
      exact ⟨_, _, fl_fr g1, fm_fr fm, Or.inr ⟨rfl, rfl, fx 3 (by omega) (by omega)⟩⟩
  · rw [if_neg c, g4 hk (by
      cases hnm : nmB tx (nwB tx le a) (nwE tx le a - nwB tx le a) with
      | false => exact Or.inl rfl
      | true =>
        cases hi : isW tx (nwB tx le a) (nwE tx le a - nwB tx le a) [116, 111, 112] with
        | false => exact absurd ⟨hnm, hi⟩ c
        | true => exact Or.inr ⟨by omega, rfl⟩), mb3_s, if_pos (show (0 : Int32) = 0 from rfl)]
    exact ⟨_, _, fl_fr g1, fm_fr fm, Or.inr ⟨rfl, rfl, fx 2 (by omega) (by omega)⟩⟩
/-- where the reference finds no further word -/
theorem st_newE {fu n le a σ : Nat} {A M : mwM} {Lc Lm : mwL} {tx : Nat → Nat} {nl : List Nm} (hfu : 6100 ≤ fu) (h : Ld A M n tx le a) (hC : NmC A nl) (hO : NmO n nl) (hσ : σ < 100) (hk : nwK tx le a = false) : ∃ A' M', fWn A A' ∧ fR M M' ∧ DX8_newName fu (sI σ) 0 1 A Lc = some (A', Lc) ∧ DX19_must fu M Lm = some (0, M', Lm) ∧ Fx A' M' := by
  obtain ⟨hT, hM, h6, h7, hle, h5, h6', ha, h12⟩ := id h
  have hn := hT.2.1
  obtain ⟨A1, g1, g12, g2, g3, g4, g5⟩ := c_newName (fu := fu) (σ := σ) (a2 := 0) (a3 := 1) (L := Lc) hfu hT h5 h6 ha hle h12 hC hO hσ
  obtain ⟨M9, m1, m2, m3, m4⟩ := m_next (fu := fu) (L := Lm) hfu hM h6' h7 ha hle
  refine ⟨flA A1 (sI 2) (sI le), flM M9 (sI 2) (sI le), fl_fr g1, fm_fr (fun x y u => m4 x y (by omega)), g3 hk, ?_, Fx_i (by omega) (by omega) (by omega)⟩
  unfold DX19_must
  rw [m1, mb3_s, hk, bI_f, if_pos (show (0 : Int32) = 0 from rfl), m_fail, mb3_s, if_pos (show (0 : Int32) = 0 from rfl), m4 _ _ (by omega), h7]
  rfl
theorem NmC_f {A A' : mwM} {nl : List Nm} (h : NmC A nl) (hA : ∀ a y, (a = 1 ∧ y = 3) ∨ (726 ≤ a ∧ a ≤ 730) → A' a y = A a y) : NmC A' nl := by
  obtain ⟨n1, n2, n3⟩ := h
  refine ⟨by rw [hA _ _ (by omega)]; exact n1, n2, fun i hi => ?_⟩
  rw [hA _ _ (by omega), hA _ _ (by omega), hA _ _ (by omega), hA _ _ (by omega), hA _ _ (by omega)]
  exact n3 i hi
theorem st_newStt {fu n le a x X : Nat} {A M : mwM} {Lc Lm : mwL} {tx : Nat → Nat} {nl : List Nm} (G : mwM → mwL → Option (Int32 × mwM × mwL)) (hfu : 6100 ≤ fu) (h : Ld A M n tx le a) (hN : NaR A M n X nl) (hx : x < X) : ∃ A' M', fWn A A' ∧ fR M M' ∧ ((nwK tx le a = true ∧ DX8_newName fu (sI (1 + 2 * x)) 0 1 A Lc = some (A', Lc) ∧ mb3 (DX19_must fu M Lm) (fun r51 M49 L50 => if r51 = 0 then some (0, M49, L50) else mb3 (DX19_findState fu (sI x) M49 L50) (fun r55 M53 L54 => if r55 ≤ 0 then mb3 (DX19_newIn fu 0 M53 L54) (fun r3 M1 L2 => if r3 = 0 then some (0, M1, L2) else G M1 L2) else mb3 (DX19_newIn fu 1 M53 L54) (fun r3 M1 L2 => if r3 = 0 then some (0, M1, L2) else G M1 L2))) = G M' Lm ∧ Ld A' M' n tx le (nwE tx le a) ∧ Hw A' M' (nwB tx le a) (nwE tx le a) ∧ A' 1 10 = sI (nwB tx le a) ∧ A' 1 11 = sI (nwE tx le a - nwB tx le a)) ∨ (DX8_newName fu (sI (1 + 2 * x)) 0 1 A Lc = some (A', Lc) ∧ mb3 (DX19_must fu M Lm) (fun r51 M49 L50 => if r51 = 0 then some (0, M49, L50) else mb3 (DX19_findState fu (sI x) M49 L50) (fun r55 M53 L54 => if r55 ≤ 0 then mb3 (DX19_newIn fu 0 M53 L54) (fun r3 M1 L2 => if r3 = 0 then some (0, M1, L2) else G M1 L2) else mb3 (DX19_newIn fu 1 M53 L54) (fun r3 M1 L2 => if r3 = 0 then some (0, M1, L2) else G M1 L2))) = some (0, M', Lm) ∧ Fx A' M')) := by
  obtain ⟨hT, hM, h6, h7, hle, h5, h6', ha, h12⟩ := id h
  have hn := hT.2.1
  obtain ⟨nC, nO, nM, nX, nS⟩ := id hN
  cases hk : nwK tx le a with
  | false =>
    obtain ⟨A1, M1, f1, f2, e1, e2, hX⟩ := st_newE (fu := fu) (σ := 1 + 2 * x) (Lc := Lc) (Lm := Lm) hfu h nC nO (by omega) hk
    rw [e1, e2, mb3_s, if_pos (show (0 : Int32) = 0 from rfl)]
    exact ⟨A1, M1, f1, f2, Or.inr ⟨rfl, rfl, hX⟩⟩
  | true =>
    obtain ⟨Ax, M1, f1, f2, hr⟩ := st_mustF (fu := fu) (Lc := Lc) (Lm := Lm) hfu h
    rcases hr with ⟨_, e1, e2, hL, hH⟩ | ⟨hk', _⟩
    · obtain ⟨_, _, m9, m10, hlt⟩ := id hH
      obtain ⟨_, l2, _, l4, _, _, l7, l8, _⟩ := id hL
      obtain ⟨_, _, _, _, nS1⟩ := NaR_f hN (A' := A) (M' := M1) (fun _ _ _ => rfl) (fun p y u => f2 p y (by omega))
      obtain ⟨r, y1, y2⟩ := m_findState (fu := fu) (L := Lm) hfu l2 m9 m10 hlt (by omega) (show x < 12 by omega) (nS1 x hx).1 (NmO_s nO)
      have hl := (nS1 x hx).1.2.1
      rw [e2, mb3_s, if_neg (show ¬ (1 : Int32) = 0 by decide), y1, mb3_s]
      obtain ⟨A', M', q1, q2, q3⟩ := st_newH (Lc := Lc) (Lm := Lm) (fl := ((nsL (1 + 2 * x) nl).find? (hitB tx (nwB tx le a) (nwE tx le a - nwB tx le a))).isSome) G hfu h nC nO (show 0 < 1 + 2 * x by omega) (by omega) hk f2 l2 l7 m9 m10 rfl
      rcases y2 with ⟨y2, y3⟩ | ⟨i, hi, y2, y3⟩
      · rw [y2, if_pos (show (-1 : Int32) ≤ 0 by decide)]
        rw [y3, show bI (none : Option Nm).isSome = 0 from rfl] at q3
        refine ⟨A', M', q1, q2, ?_⟩
        rcases q3 with q3 | q3
        · exact Or.inl ⟨rfl, q3⟩
        · exact Or.inr q3
      · rw [y2, if_neg (show ¬ sI (i + 1) ≤ 0 by rw [show (0 : Int32) = sI 0 from rfl, sI_le (by omega) (by omega)]; omega)]
        rw [y3, show bI (some (nsL (1 + 2 * x) nl)[i]).isSome = 1 from rfl] at q3
        refine ⟨A', M', q1, q2, ?_⟩
        rcases q3 with q3 | q3
        · exact Or.inl ⟨rfl, q3⟩
        · exact Or.inr q3
    · rw [hk] at hk'
      cases hk'
theorem st_newDat {fu n le a x X : Nat} {A M : mwM} {Lc Lm : mwL} {tx : Nat → Nat} {nl : List Nm} (G : mwM → mwL → Option (Int32 × mwM × mwL)) (hfu : 6100 ≤ fu) (h : Ld A M n tx le a) (hN : NaR A M n X nl) (hx : x < X) : ∃ A' M', fWn A A' ∧ fR M M' ∧ ((nwK tx le a = true ∧ DX8_newName fu (sI (2 + 2 * x)) 0 1 A Lc = some (A', Lc) ∧ mb3 (DX19_must fu M Lm) (fun r51 M49 L50 => if r51 = 0 then some (0, M49, L50) else mb3 (DX19_findDatum fu (sI x) M49 L50) (fun r55 M53 L54 => if r55 < 0 then mb3 (DX19_newIn fu 0 M53 L54) (fun r3 M1 L2 => if r3 = 0 then some (0, M1, L2) else G M1 L2) else mb3 (DX19_newIn fu 1 M53 L54) (fun r3 M1 L2 => if r3 = 0 then some (0, M1, L2) else G M1 L2))) = G M' Lm ∧ Ld A' M' n tx le (nwE tx le a) ∧ Hw A' M' (nwB tx le a) (nwE tx le a) ∧ A' 1 10 = sI (nwB tx le a) ∧ A' 1 11 = sI (nwE tx le a - nwB tx le a)) ∨ (DX8_newName fu (sI (2 + 2 * x)) 0 1 A Lc = some (A', Lc) ∧ mb3 (DX19_must fu M Lm) (fun r51 M49 L50 => if r51 = 0 then some (0, M49, L50) else mb3 (DX19_findDatum fu (sI x) M49 L50) (fun r55 M53 L54 => if r55 < 0 then mb3 (DX19_newIn fu 0 M53 L54) (fun r3 M1 L2 => if r3 = 0 then some (0, M1, L2) else G M1 L2) else mb3 (DX19_newIn fu 1 M53 L54) (fun r3 M1 L2 => if r3 = 0 then some (0, M1, L2) else G M1 L2))) = some (0, M', Lm) ∧ Fx A' M')) := by
  obtain ⟨hT, hM, h6, h7, hle, h5, h6', ha, h12⟩ := id h
  have hn := hT.2.1
  obtain ⟨nC, nO, nM, nX, nS⟩ := id hN
  cases hk : nwK tx le a with
  | false =>
    obtain ⟨A1, M1, f1, f2, e1, e2, hX⟩ := st_newE (fu := fu) (σ := 2 + 2 * x) (Lc := Lc) (Lm := Lm) hfu h nC nO (by omega) hk
    rw [e1, e2, mb3_s, if_pos (show (0 : Int32) = 0 from rfl)]
    exact ⟨A1, M1, f1, f2, Or.inr ⟨rfl, rfl, hX⟩⟩
  | true =>
    obtain ⟨Ax, M1, f1, f2, hr⟩ := st_mustF (fu := fu) (Lc := Lc) (Lm := Lm) hfu h
    rcases hr with ⟨_, e1, e2, hL, hH⟩ | ⟨hk', _⟩
    · obtain ⟨_, _, m9, m10, hlt⟩ := id hH
      obtain ⟨_, l2, _, l4, _, _, l7, l8, _⟩ := id hL
      obtain ⟨_, _, _, _, nS1⟩ := NaR_f hN (A' := A) (M' := M1) (fun _ _ _ => rfl) (fun p y u => f2 p y (by omega))
      obtain ⟨r, y1, y2⟩ := m_findDatum (fu := fu) (L := Lm) hfu l2 m9 m10 hlt (by omega) (show x < 12 by omega) (nS1 x hx).2 (NmO_s nO)
      have hl := (nS1 x hx).2.2.1
      rw [e2, mb3_s, if_neg (show ¬ (1 : Int32) = 0 by decide), y1, mb3_s]
      obtain ⟨A', M', q1, q2, q3⟩ := st_newH (Lc := Lc) (Lm := Lm) (fl := ((nsL (2 + 2 * x) nl).find? (hitB tx (nwB tx le a) (nwE tx le a - nwB tx le a))).isSome) G hfu h nC nO (show 0 < 2 + 2 * x by omega) (by omega) hk f2 l2 l7 m9 m10 rfl
      rcases y2 with ⟨y2, y3⟩ | ⟨i, hi, y2, y3⟩
      · rw [y2, if_pos (show (-1 : Int32) < 0 by decide)]
        rw [y3, show bI (none : Option Nm).isSome = 0 from rfl] at q3
        refine ⟨A', M', q1, q2, ?_⟩
        rcases q3 with q3 | q3
        · exact Or.inl ⟨rfl, q3⟩
        · exact Or.inr q3
      · rw [y2, if_neg (show ¬ sI i < 0 by rw [show (0 : Int32) = sI 0 from rfl, sI_lt (by omega) (by omega)]; omega)]
        rw [y3, show bI (some (nsL (2 + 2 * x) nl)[i]).isSome = 1 from rfl] at q3
        refine ⟨A', M', q1, q2, ?_⟩
        rcases q3 with q3 | q3
        · exact Or.inl ⟨rfl, q3⟩
        · exact Or.inr q3
    · rw [hk] at hk'
      cases hk'
