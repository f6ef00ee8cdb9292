/-! READING: one of several words; a guard -/
theorem ok_k0 : okW [112, 108, 97, 105, 110] 474214394992 0 = true := by decide +kernel
theorem ok_k1 : okW [115, 112, 108, 105, 116] 499984920691 0 = true := by decide +kernel
theorem ok_k2 : okW [104, 105, 115, 116, 111, 114, 121] 34184295202646376 0 = true := by decide +kernel
theorem ok_k3 : okW [100, 101, 101, 112] 1885693284 0 = true := by decide +kernel
theorem ok_k4 : okW [102, 111, 114, 107] 1802661734 0 = true := by decide +kernel
theorem ok_k5 : okW [106, 111, 105, 110] 1852403562 0 = true := by decide +kernel
theorem ok_o0 : okW [101, 113] 29029 0 = true := by decide +kernel
theorem ok_o1 : okW [110, 101] 25966 0 = true := by decide +kernel
theorem ok_o2 : okW [108, 116] 29804 0 = true := by decide +kernel
theorem ok_o3 : okW [103, 101] 25959 0 = true := by decide +kernel
theorem ok_o4 : okW [100, 105, 118] 7760228 0 = true := by decide +kernel
theorem ok_o5 : okW [109, 111, 100] 6582125 0 = true := by decide +kernel
theorem idx_b {tx : Nat → Nat} {w s : Nat} : ∀ (Ws : List (List Nat)) (j : Nat), idxW tx w s Ws j = -1 ∨ ∃ k, k < Ws.length ∧ idxW tx w s Ws j = sI (j + k) := by
  intro Ws
  induction Ws with
  | nil => intro j; exact Or.inl rfl
  | cons W R ih =>
    intro j
    unfold idxW
    by_cases c : isW tx w s W = true
    · rw [if_pos c]
      exact Or.inr ⟨0, by show 0 < R.length + 1; omega, rfl⟩
    · rw [if_neg c]
      rcases ih (j + 1) with h | ⟨k, h1, h2⟩
      · exact Or.inl h
      · exact Or.inr ⟨k + 1, by show k + 1 < R.length + 1; omega, by rw [h2, show j + 1 + k = j + (k + 1) by omega]⟩
theorem m_kind {fu n w e : Nat} {tx : Nat → Nat} {M : mwM} {L : mwL} (hfu : 6100 ≤ fu) (hT : TxM M n tx) (h9 : M 732 9 = sI w) (h10 : M 732 10 = sI e) (hw : w < e) (he : e ≤ n) : ∃ r, DX19_kind fu M L = some (r, M, L) ∧ ((r = -1 ∧ idxW tx w (e - w) wKinds 0 = -1) ∨ ∃ j, j < 6 ∧ r = sI (j + 0) ∧ idxW tx w (e - w) wKinds 0 = sI j) := by
  unfold DX19_kind fX19_kind_b81 wKinds
  simp only [idxW]
  rw [m_is9 (by omega) hT h9 h10 hw he ok_k0, mb3_s]
  by_cases c0 : isW tx w (e - w) [112, 108, 97, 105, 110] = true
  · rw [c0, bI_t, if_neg (show ¬ (1 : Int32) = 0 by decide), if_pos (show true = true from rfl)]
    exact ⟨_, rfl, Or.inr ⟨0, by omega, rfl, rfl⟩⟩
  rw [Bool.not_eq_true] at c0
  rw [c0, bI_f, if_pos (show (0 : Int32) = 0 from rfl), if_neg (show ¬ false = true by decide)]
  rw [m_is9 (by omega) hT h9 h10 hw he ok_k1, mb3_s]
  by_cases c1 : isW tx w (e - w) [115, 112, 108, 105, 116] = true
  · rw [c1, bI_t, if_neg (show ¬ (1 : Int32) = 0 by decide), if_pos (show true = true from rfl)]
    exact ⟨_, rfl, Or.inr ⟨1, by omega, rfl, rfl⟩⟩
  rw [Bool.not_eq_true] at c1
  rw [c1, bI_f, if_pos (show (0 : Int32) = 0 from rfl), if_neg (show ¬ false = true by decide)]
  rw [m_is9 (by omega) hT h9 h10 hw he ok_k2, mb3_s]
  by_cases c2 : isW tx w (e - w) [104, 105, 115, 116, 111, 114, 121] = true
  · rw [c2, bI_t, if_neg (show ¬ (1 : Int32) = 0 by decide), if_pos (show true = true from rfl)]
    exact ⟨_, rfl, Or.inr ⟨2, by omega, rfl, rfl⟩⟩
  rw [Bool.not_eq_true] at c2
  rw [c2, bI_f, if_pos (show (0 : Int32) = 0 from rfl), if_neg (show ¬ false = true by decide)]
  rw [m_is9 (by omega) hT h9 h10 hw he ok_k3, mb3_s]
  by_cases c3 : isW tx w (e - w) [100, 101, 101, 112] = true
  · rw [c3, bI_t, if_neg (show ¬ (1 : Int32) = 0 by decide), if_pos (show true = true from rfl)]
    exact ⟨_, rfl, Or.inr ⟨3, by omega, rfl, rfl⟩⟩
  rw [Bool.not_eq_true] at c3
  rw [c3, bI_f, if_pos (show (0 : Int32) = 0 from rfl), if_neg (show ¬ false = true by decide)]
  rw [m_is9 (by omega) hT h9 h10 hw he ok_k4, mb3_s]
  by_cases c4 : isW tx w (e - w) [102, 111, 114, 107] = true
  · rw [c4, bI_t, if_neg (show ¬ (1 : Int32) = 0 by decide), if_pos (show true = true from rfl)]
    exact ⟨_, rfl, Or.inr ⟨4, by omega, rfl, rfl⟩⟩
  rw [Bool.not_eq_true] at c4
  rw [c4, bI_f, if_pos (show (0 : Int32) = 0 from rfl), if_neg (show ¬ false = true by decide)]
  rw [m_is9 (by omega) hT h9 h10 hw he ok_k5, mb3_s]
  by_cases c5 : isW tx w (e - w) [106, 111, 105, 110] = true
  · rw [c5, bI_t, if_neg (show ¬ (1 : Int32) = 0 by decide), if_pos (show true = true from rfl)]
    exact ⟨_, rfl, Or.inr ⟨5, by omega, rfl, rfl⟩⟩
  rw [Bool.not_eq_true] at c5
  rw [c5, bI_f, if_pos (show (0 : Int32) = 0 from rfl), if_neg (show ¬ false = true by decide)]
  exact ⟨_, rfl, Or.inl ⟨rfl, rfl⟩⟩
theorem m_op {fu n w e : Nat} {tx : Nat → Nat} {M : mwM} {L : mwL} (hfu : 6100 ≤ fu) (hT : TxM M n tx) (h9 : M 732 9 = sI w) (h10 : M 732 10 = sI e) (hw : w < e) (he : e ≤ n) : ∃ r, DX19_op fu M L = some (r, M, L) ∧ ((r = -1 ∧ idxW tx w (e - w) wOps 0 = -1) ∨ ∃ j, j < 6 ∧ r = sI (j + 1) ∧ idxW tx w (e - w) wOps 0 = sI j) := by
  unfold DX19_op fX19_op_b82 wOps
  simp only [idxW]
  rw [m_is9 (by omega) hT h9 h10 hw he ok_o0, mb3_s]
  by_cases c0 : isW tx w (e - w) [101, 113] = true
  · rw [c0, bI_t, if_neg (show ¬ (1 : Int32) = 0 by decide), if_pos (show true = true from rfl)]
    exact ⟨_, rfl, Or.inr ⟨0, by omega, rfl, rfl⟩⟩
  rw [Bool.not_eq_true] at c0
  rw [c0, bI_f, if_pos (show (0 : Int32) = 0 from rfl), if_neg (show ¬ false = true by decide)]
  rw [m_is9 (by omega) hT h9 h10 hw he ok_o1, mb3_s]
  by_cases c1 : isW tx w (e - w) [110, 101] = true
  · rw [c1, bI_t, if_neg (show ¬ (1 : Int32) = 0 by decide), if_pos (show true = true from rfl)]
    exact ⟨_, rfl, Or.inr ⟨1, by omega, rfl, rfl⟩⟩
  rw [Bool.not_eq_true] at c1
  rw [c1, bI_f, if_pos (show (0 : Int32) = 0 from rfl), if_neg (show ¬ false = true by decide)]
  rw [m_is9 (by omega) hT h9 h10 hw he ok_o2, mb3_s]
  by_cases c2 : isW tx w (e - w) [108, 116] = true
  · rw [c2, bI_t, if_neg (show ¬ (1 : Int32) = 0 by decide), if_pos (show true = true from rfl)]
    exact ⟨_, rfl, Or.inr ⟨2, by omega, rfl, rfl⟩⟩
  rw [Bool.not_eq_true] at c2
  rw [c2, bI_f, if_pos (show (0 : Int32) = 0 from rfl), if_neg (show ¬ false = true by decide)]
  rw [m_is9 (by omega) hT h9 h10 hw he ok_o3, mb3_s]
  by_cases c3 : isW tx w (e - w) [103, 101] = true
  · rw [c3, bI_t, if_neg (show ¬ (1 : Int32) = 0 by decide), if_pos (show true = true from rfl)]
    exact ⟨_, rfl, Or.inr ⟨3, by omega, rfl, rfl⟩⟩
  rw [Bool.not_eq_true] at c3
  rw [c3, bI_f, if_pos (show (0 : Int32) = 0 from rfl), if_neg (show ¬ false = true by decide)]
  rw [m_is9 (by omega) hT h9 h10 hw he ok_o4, mb3_s]
  by_cases c4 : isW tx w (e - w) [100, 105, 118] = true
  · rw [c4, bI_t, if_neg (show ¬ (1 : Int32) = 0 by decide), if_pos (show true = true from rfl)]
    exact ⟨_, rfl, Or.inr ⟨4, by omega, rfl, rfl⟩⟩
  rw [Bool.not_eq_true] at c4
  rw [c4, bI_f, if_pos (show (0 : Int32) = 0 from rfl), if_neg (show ¬ false = true by decide)]
  rw [m_is9 (by omega) hT h9 h10 hw he ok_o5, mb3_s]
  by_cases c5 : isW tx w (e - w) [109, 111, 100] = true
  · rw [c5, bI_t, if_neg (show ¬ (1 : Int32) = 0 by decide), if_pos (show true = true from rfl)]
    exact ⟨_, rfl, Or.inr ⟨5, by omega, rfl, rfl⟩⟩
  rw [Bool.not_eq_true] at c5
  rw [c5, bI_f, if_pos (show (0 : Int32) = 0 from rfl), if_neg (show ¬ false = true by decide)]
  exact ⟨_, rfl, Or.inl ⟨rfl, rfl⟩⟩
theorem nf_one {fu a1 : Nat} {A : mwM} {L : mwL} (h : ¬ A 1 12 = 0) : DX8_oneOf fu a1 A L = some (0, A, L) := by
  unfold DX8_oneOf
  rw [nf_fetch h, mb3_s, if_pos rfl]
theorem nf_oper {fu : Nat} {a1 : Int32} {A : mwM} {L : mwL} (h : ¬ A 1 12 = 0) : DX8_otherOperand fu a1 A L = some (0, A, L) := by
  unfold DX8_otherOperand
  rw [nf_fetch h, mb3_s, if_pos rfl]
/-- the kind of a state -/
theorem st_kind {fu n le a : Nat} {A M : mwM} {Lc Lm : mwL} {tx : Nat → Nat} (K : Int32 → mwM → mwL → Option (Int32 × mwM × mwL)) (hfu : 6100 ≤ fu) (h : Ld A M n tx le a) : ∃ A' M', fW A A' ∧ fR M M' ∧ ((∃ j, j < 6 ∧ nwK tx le a = true ∧ DX8_oneOf fu 1 A Lc = some (sI j, A', Lc) ∧ mb3 (DX19_must fu M Lm) (fun r17 M15 L16 => if r17 = 0 then some (0, M15, L16) else mb3 (DX19_kind fu M15 L16) (fun r21 M19 L20 => if 0 ≤ r21 then K r21 M19 L20 else mb3 (DX19_fail fu 1 (M19 732 9) M19 L20) (fun r43 M41 L42 => mzz r43 (some (r43, M41, L42))))) = K (sI j) M' Lm ∧ Ld A' M' n tx le (nwE tx le a)) ∨ (DX8_oneOf fu 1 A Lc = some (0, A', Lc) ∧ mb3 (DX19_must fu M Lm) (fun r17 M15 L16 => if r17 = 0 then some (0, M15, L16) else mb3 (DX19_kind fu M15 L16) (fun r21 M19 L20 => if 0 ≤ r21 then K r21 M19 L20 else mb3 (DX19_fail fu 1 (M19 732 9) M19 L20) (fun r43 M41 L42 => mzz r43 (some (r43, M41, L42))))) = some (0, M', Lm) ∧ Fx A' M')) := by
  obtain ⟨A1, M1, f1, f2, hr⟩ := st_must (fu := fu) (Lc := Lc) (Lm := Lm) hfu h
  unfold DX8_oneOf
  rcases hr with ⟨hk, e1, e2, hL, hH⟩ | ⟨e1, e2, hX⟩
  · obtain ⟨w8, w9, m9, m10, hlt⟩ := id hH
    obtain ⟨l1, l2, l3, l4, l5, l6, l7, l8, l9⟩ := id hL
    have hn := l1.2.1
    obtain ⟨r, x1, x2⟩ := m_kind (fu := fu) (L := Lm) hfu l2 m9 m10 hlt (by omega)
    rw [e1, mb3_s, if_neg (show ¬ (1 : Int32) = 0 by decide), e2, mb3_s, if_neg (show ¬ (1 : Int32) = 0 by decide), c_indexIn wKinds (by omega) l1 w8 w9 (by omega) (by decide) st_kinds, mb3_s, x1, mb3_s]
    rcases x2 with ⟨y1, y2⟩ | ⟨j, hj, y1, y2⟩
    · rw [y1, y2, if_neg (show ¬ (0 : Int32) ≤ -1 by decide), if_neg (show ¬ (0 : Int32) ≤ -1 by decide), c_fail l9, mb2_s, w8, m_fail, mb3_s, m9]
      exact ⟨_, _, fun x y u => by rw [mset_n (by omega), mset_n (by omega), f1 x y u], fm_fr f2, Or.inr ⟨rfl, rfl, Fx_i (k := 1) (by omega) (by omega) (by omega)⟩⟩
    · rw [y1, y2, if_pos (show (0 : Int32) ≤ sI j by rw [show (0 : Int32) = sI 0 from rfl, sI_le (by omega) (by omega)]; omega), if_pos (show (0 : Int32) ≤ sI (j + 0) by rw [show (0 : Int32) = sI 0 from rfl, sI_le (by omega) (by omega)]; omega)]
      exact ⟨A1, M1, f1, f2, Or.inl ⟨j, hj, hk, rfl, rfl, hL⟩⟩
  · rw [e1, mb3_s, if_pos (show (0 : Int32) = 0 from rfl), e2, mb3_s, if_pos (show (0 : Int32) = 0 from rfl)]
    exact ⟨A1, M1, f1, f2, Or.inr ⟨rfl, rfl, hX⟩⟩
/-- the other operand of a guard -/
theorem st_oper {fu n le a x X d j : Nat} {A M : mwM} {Lc Lm : mwL} {tx : Nat → Nat} {nl : List Nm} (hfu : 6100 ≤ fu) (h : Ld A M n tx le a) (hN : NaR A M n X nl) (hx : x < X) : ∃ A' M', fW A A' ∧ fRn M M' ∧ ((∃ o, o ≤ 16128 ∧ o % 256 = 0 ∧ nwK tx le a = true ∧ DX8_otherOperand fu (sI x) A Lc = some (sI o, A', Lc) ∧ mb3 (DX19_must fu M Lm) (fun r27 M25 L26 => (if r27 = 0 then some ((-1), M25, L26) else mb3 (DX19_findDatum fu (sI x) M25 L26) (fun r31 M29 L30 => (if r31 < 0 then mb3 (DX19_isNumber fu M29 L30) (fun r35 M33 L34 => (if r35 = 0 then mb3 (DX19_fail fu 4 (M33 732 9) M33 L34) (fun r41 M39 L40 => (if r41 = 0 then fX19_guard_b143 fu (sI x) ((-1)) M39 L40 else fX19_guard_b143 fu (sI x) 0 M39 L40)) else (if (M33 732 13) < 0 then fX19_guard_b160 fu (sI x) M33 L34 else (if (M33 732 13) ≤ 31 then some (((8192 + (256 * (M33 732 13))) + (8 * sI d)) + sI (j + 1), M33, L34) else fX19_guard_b160 fu (sI x) M33 L34)))) else some (((256 * r31) + (8 * sI d)) + sI (j + 1), M29, L30))))) = some (sI (j + 1 + 8 * d + o), M', Lm) ∧ Ld A' M' n tx le (nwE tx le a)) ∨ (∃ zz, DX8_otherOperand fu (sI x) A Lc = some (zz, A', Lc) ∧ mb3 (DX19_must fu M Lm) (fun r27 M25 L26 => (if r27 = 0 then some ((-1), M25, L26) else mb3 (DX19_findDatum fu (sI x) M25 L26) (fun r31 M29 L30 => (if r31 < 0 then mb3 (DX19_isNumber fu M29 L30) (fun r35 M33 L34 => (if r35 = 0 then mb3 (DX19_fail fu 4 (M33 732 9) M33 L34) (fun r41 M39 L40 => (if r41 = 0 then fX19_guard_b143 fu (sI x) ((-1)) M39 L40 else fX19_guard_b143 fu (sI x) 0 M39 L40)) else (if (M33 732 13) < 0 then fX19_guard_b160 fu (sI x) M33 L34 else (if (M33 732 13) ≤ 31 then some (((8192 + (256 * (M33 732 13))) + (8 * sI d)) + sI (j + 1), M33, L34) else fX19_guard_b160 fu (sI x) M33 L34)))) else some (((256 * r31) + (8 * sI d)) + sI (j + 1), M29, L30))))) = some (-1, M', Lm) ∧ Fx A' M')) := by
  obtain ⟨A1, M1, f1, f2, hr⟩ := st_must (fu := fu) (Lc := Lc) (Lm := Lm) hfu h
  have hN1 : NaR A1 M1 n X nl := NaR_f hN (fun x y u => f1 x y (by omega)) (fun x y u => f2 x y (by omega))
  unfold DX8_otherOperand DX8_dataOf
  rcases hr with ⟨hk, e1, e2, hL, hH⟩ | ⟨e1, e2, hX⟩
  · obtain ⟨w8, w9, m9, m10, hlt⟩ := id hH
    obtain ⟨l1, l2, l3, l4, l5, l6, l7, l8, l9⟩ := id hL
    obtain ⟨nC, nO, nM, nX, nS⟩ := hN1
    have hn := l1.2.1
    have hl := nC.2.1
    obtain ⟨r', x1, x2⟩ := c_findName (fu := fu) (σ := 2 + 2 * x) (L := Lc) hfu l1 w8 w9 (by omega) nC nO (by omega)
    obtain ⟨r, y1, y2⟩ := m_findDatum (fu := fu) (L := Lm) hfu l2 m9 m10 hlt (by omega) (show x < 12 by omega) (nS x hx).2 (NmO_s nO)
    rw [e1, mb3_s, if_neg (show ¬ (1 : Int32) = 0 by decide), mb3_s, e2, mb3_s, if_neg (show ¬ (1 : Int32) = 0 by decide), show (2 : Int32) + 2 * sI x = sI (2 + 2 * x) by rw [show (2 : Int32) * sI x = sI (2 * x) from sI_lml]; exact sI_lad, x1, mb3_s, y1, mb3_s]
    rcases y2 with ⟨y2, y3⟩ | ⟨i, hi, y2, y3⟩
    · rcases x2 with ⟨x2, x3⟩ | ⟨k, hk', x2, x3⟩
      · rw [x2, y2, if_pos (show (-1 : Int32) < 0 by decide), if_pos (show (-1 : Int32) < 0 by decide), c_isNumber (by omega) l1 w8 w9 (by omega) (by omega), mb3_s, m_isNumber hfu l2 m9 m10 hlt (by omega), mb3_s]
        have fM1 : ∀ v : Int32, fRn M (mset M1 732 13 v) := fun v p y u => by rw [mset_n (by omega), f2 p y (by omega)]
        have fA : ∀ k : Int32, fW A (mset (mset A1 1 12 k) 1 13 (sI (nwB tx le a))) := fun k p y u => by rw [mset_n (by omega), mset_n (by omega), f1 p y u]
        have fMl : ∀ v k : Int32, fRn M (mset (mset (mset M1 732 13 v) 732 11 k) 732 12 (sI (nwB tx le a))) := fun v k p y u => by rw [mset_n (by omega), mset_n (by omega), fM1 v p y u]
        generalize hxv : nuV tx (nwB tx le a) (nwE tx le a - nwB tx le a) = xv
        cases hb : nuB tx (nwB tx le a) (nwE tx le a - nwB tx le a) with
        | false =>
          rw [bI_f, if_pos (show (0 : Int32) = 0 from rfl), if_pos (show (0 : Int32) = 0 from rfl), if_neg (show ¬ false = true by decide), c_fail l9, mb2_s, w8, m_fail, mb3_s, if_pos (show (0 : Int32) = 0 from rfl), mset_n (show ¬ (732 = 732 ∧ 9 = 13) by omega), m9]
          unfold fX19_guard_b143
          exact ⟨_, _, fA 4, fMl 0 4, Or.inr ⟨_, rfl, rfl, Fx_i (k := 4) (M := mset M1 732 13 0) (by omega) (by omega) (by omega)⟩⟩
        | true =>
          have cb := c_bounded (fu := fu) (a1 := 0) (a2 := 31) (L := Lc) (by omega) l1 w8 w9 (by omega) (by omega) l9
          rw [hxv, hb] at cb
          rw [bI_t, if_neg (show ¬ (1 : Int32) = 0 by decide), if_neg (show ¬ (1 : Int32) = 0 by decide), if_pos (show true = true from rfl), mset_s, cb]
          have bad : ∃ M', fRn M M' ∧ fX19_guard_b160 fu (sI x) (mset M1 732 13 xv) Lm = some (-1, M', Lm) ∧ Fx (mset (mset A1 1 12 (sI 5)) 1 13 (sI (nwB tx le a))) M' := by
            refine ⟨_, fMl xv 5, ?_, Fx_i (k := 5) (M := mset M1 732 13 xv) (by omega) (by omega) (by omega)⟩
            unfold fX19_guard_b160 fX19_guard_b177
            rw [m_fail, mb3_s, if_pos (show (0 : Int32) = 0 from rfl), mset_n (show ¬ (732 = 732 ∧ 9 = 13) by omega), m9]
          by_cases c1 : xv < 0
          · obtain ⟨M', b2, b4, b5⟩ := bad
            rw [if_neg (fun z => z.2.1 c1), if_pos c1, mb3_s]
            exact ⟨_, M', fA 5, b2, Or.inr ⟨_, rfl, b4, b5⟩⟩
          · rw [if_neg c1]
            by_cases c2 : xv ≤ 31
            · rw [if_pos ⟨rfl, c1, c2⟩, if_pos c2, mb3_s]
              obtain ⟨v, v1, v2, v3⟩ := nu_nat (lo := 0) (hi := 31) hb (by rw [hxv]; exact c1) (by rw [hxv]; exact c2) (by omega) (by omega)
              rw [hxv] at v1
              refine ⟨A1, mset M1 732 13 xv, f1, fM1 xv, Or.inl ⟨8192 + 256 * v, by omega, by omega, hk, ?_, ?_, Ld_n hL (fun p y u => mset_n (by omega))⟩⟩
              · rw [v1, show (256 : Int32) * sI v = sI (256 * v) from sI_lml, show (8192 : Int32) + sI (256 * v) = sI (8192 + 256 * v) from sI_lad]
              · rw [v1, show (256 : Int32) * sI v = sI (256 * v) from sI_lml, show (8192 : Int32) + sI (256 * v) = sI (8192 + 256 * v) from sI_lad, show (8 : Int32) * sI d = sI (8 * d) from sI_lml, sI_add, sI_add, show 8192 + 256 * v + 8 * d + (j + 1) = j + 1 + 8 * d + (8192 + 256 * v) by omega]
            · obtain ⟨M', b2, b4, b5⟩ := bad
              rw [if_neg (fun z => c2 z.2.2), if_neg c2, mb3_s]
              exact ⟨_, M', fA 5, b2, Or.inr ⟨_, rfl, b4, b5⟩⟩
      · rw [y3] at x3
        exact absurd x3 (by simp)
    · rcases x2 with ⟨x2, x3⟩ | ⟨k, hk', x2, x3⟩
      · rw [y3] at x3
        exact absurd x3 (by simp)
      · obtain ⟨a1, a2, a3, a4, a5⟩ := nC.2.2 k hk'
        obtain ⟨_, hl2, z⟩ := (nS x hx).2
        obtain ⟨c1, c2, c3, c4⟩ := z i hi
        rw [y3] at x3
        have ee := Option.some.inj x3
        rw [x2, y2, if_neg (show ¬ sI k < 0 by rw [show (0 : Int32) = sI 0 from rfl, sI_lt (by omega) (by omega)]; omega), if_neg (show ¬ sI i < 0 by rw [show (0 : Int32) = sI 0 from rfl, sI_lt (by omega) (by omega)]; omega), mck_s (show k < 600 by omega) (by omega), sI_nn (by omega), a5, ← ee, c4]
        refine ⟨A1, M1, f1, fun p y u => f2 p y (by omega), Or.inl ⟨256 * i, by omega, by omega, hk, ?_, ?_, hL⟩⟩
        · rw [show (256 : Int32) * sI i = sI (256 * i) from sI_lml]
        · rw [show (256 : Int32) * sI i = sI (256 * i) from sI_lml, show (8 : Int32) * sI d = sI (8 * d) from sI_lml, sI_add, sI_add, show 256 * i + 8 * d + (j + 1) = j + 1 + 8 * d + 256 * i by omega]
  · rw [e1, mb3_s, if_pos (show (0 : Int32) = 0 from rfl), e2, mb3_s, if_pos (show (0 : Int32) = 0 from rfl)]
    exact ⟨A1, M1, f1, fun p y u => f2 p y (by omega), Or.inr ⟨_, rfl, rfl, hX⟩⟩
