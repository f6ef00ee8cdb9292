/-! READING: the reference's words; what must come, what must not -/
theorem m_sp {fu n le : Nat} {A : mwM} {L : mwL} {tx : Nat → Nat} (hT : TxM A n tx) (h6 : A 732 7 = sI le) (hle : le ≤ n) : ∀ (r q a : Nat) (B : mwM), a + r = le → r < q → B 732 6 = sI a → (∀ x y, ¬ (x = 732 ∧ y = 6) → B x y = A x y) → fX19_next_h0 fu q (B, L) = fX19_next_b38 fu (mset B 732 6 (sI (spF tx r a))) L := by
  intro r
  have hn := hT.2.1
  induction r with
  | zero =>
    intro q a B ha hq h5 hB
    obtain ⟨q, rfl⟩ : ∃ y, q = y + 1 := ⟨q - 1, by omega⟩
    show fX19_next_i0 fu (fX19_next_h0 fu q) B L = _
    unfold fX19_next_i0
    rw [h5, hB 732 7 (by omega), h6, if_pos (show sI le ≤ sI a by rw [sI_le (by omega) (by omega)]; omega)]
    unfold spF
    rw [mset_id h5]
  | succ r ih =>
    intro q a B ha hq h5 hB
    obtain ⟨q, rfl⟩ : ∃ y, q = y + 1 := ⟨q - 1, by omega⟩
    obtain ⟨t1, t2, t3⟩ := hT.2.2 a (by omega)
    show fX19_next_i0 fu (fX19_next_h0 fu q) B L = _
    unfold fX19_next_i0
    rw [h5, hB 732 7 (by omega), h6, if_neg (show ¬ sI le ≤ sI a by rw [sI_le (by omega) (by omega)]; omega), mck_s (by omega) (by omega), sI_nn (by omega), hB 733 a (by omega), t1]
    unfold spF
    by_cases c : tx a = 32
    · rw [if_pos c, if_pos (show sI (tx a) = 32 by rw [c]; rfl), mlet_e, sI_1, ih q (a + 1) (mset B 732 6 (sI (a + 1))) (by omega) (by omega) mset_s (fun x y u => by rw [mset_n u]; exact hB x y u), mset_ii]
    · rw [if_neg c, if_neg (show ¬ sI (tx a) = 32 by rw [sI_32 t3]; exact c), mset_id h5]
theorem m_wd {fu n le : Nat} {A : mwM} {L : mwL} {tx : Nat → Nat} (hT : TxM A n tx) (h6 : A 732 7 = sI le) (hle : le ≤ n) : ∀ (r q a : Nat) (B : mwM), a + r = le → r < q → B 732 6 = sI a → (∀ x y, ¬ (x = 732 ∧ (y = 6 ∨ y = 9)) → B x y = A x y) → fX19_next_h73 fu q (B, L) = fX19_next_b111 fu (mset B 732 6 (sI (wdF tx r a))) L := by
  intro r
  have hn := hT.2.1
  induction r with
  | zero =>
    intro q a B ha hq h5 hB
    obtain ⟨q, rfl⟩ : ∃ y, q = y + 1 := ⟨q - 1, by omega⟩
    show fX19_next_i73 fu (fX19_next_h73 fu q) B L = _
    unfold fX19_next_i73
    rw [h5, hB 732 7 (by omega), h6, if_pos (show sI le ≤ sI a by rw [sI_le (by omega) (by omega)]; omega)]
    unfold wdF
    rw [mset_id h5]
  | succ r ih =>
    intro q a B ha hq h5 hB
    obtain ⟨q, rfl⟩ : ∃ y, q = y + 1 := ⟨q - 1, by omega⟩
    obtain ⟨t1, t2, t3⟩ := hT.2.2 a (by omega)
    show fX19_next_i73 fu (fX19_next_h73 fu q) B L = _
    unfold fX19_next_i73
    rw [h5, hB 732 7 (by omega), h6, if_neg (show ¬ sI le ≤ sI a by rw [sI_le (by omega) (by omega)]; omega), mck_s (by omega) (by omega), sI_nn (by omega), hB 733 a (by omega), t1]
    unfold wdF
    by_cases c : tx a = 32
    · rw [if_pos c, if_pos (show sI (tx a) = 32 by rw [c]; rfl), mset_id h5]
    · rw [if_neg c, if_neg (show ¬ sI (tx a) = 32 by rw [sI_32 t3]; exact c), mlet_e, sI_1, ih q (a + 1) (mset B 732 6 (sI (a + 1))) (by omega) (by omega) mset_s (fun x y u => by rw [mset_n (by omega)]; exact hB x y u), mset_ii]
theorem m_next {fu n le a : Nat} {M : mwM} {L : mwL} {tx : Nat → Nat} (hfu : 6100 ≤ fu) (hT : TxM M n tx) (h6 : M 732 6 = sI a) (h7 : M 732 7 = sI le) (ha : a ≤ le) (hle : le ≤ n) : ∃ M', DX19_next fu M L = some (bI (nwK tx le a), M', L) ∧ (nwK tx le a = true → M' 732 6 = sI (nwE tx le a) ∧ M' 732 9 = sI (nwB tx le a) ∧ M' 732 10 = sI (nwE tx le a)) ∧ (nwK tx le a = false → M' 732 6 = sI (nwB tx le a)) ∧ ∀ x y, ¬ (x = 732 ∧ (y = 6 ∨ y = 9 ∨ y = 10)) → M' x y = M x y := by
  have hn := hT.2.1
  obtain ⟨b1, b2, b3, b4, b5, b6, b7, _⟩ := nw_b (tx := tx) ha
  have e0 := m_sp (fu := fu) (L := L) hT h7 hle (le - a) fu a M (by omega) (by omega) h6 (fun _ _ _ => rfl)
  have eb : spF tx (le - a) a = nwB tx le a := rfl
  rw [eb] at e0
  unfold DX19_next
  rw [e0]
  unfold fX19_next_b38 fX19_next_b63
  rw [mset_s, mset_n (show ¬ (732 = 732 ∧ 7 = 6) by omega), h7]
  by_cases c1 : le ≤ nwB tx le a
  · have hk : nwK tx le a = false := decide_eq_false (by omega)
    rw [if_pos (show sI (nwB tx le a) = sI le by rw [sI_eq (by omega) (by omega)]; omega), hk]
    refine ⟨_, rfl, fun h => absurd h (by decide), fun _ => mset_s, fun x y u => mset_n (by omega)⟩
  · obtain ⟨t1, t2, t3⟩ := hT.2.2 (nwB tx le a) (by omega)
    rw [if_neg (show ¬ sI (nwB tx le a) = sI le by rw [sI_eq (by omega) (by omega)]; omega), mck_s (by omega) (by omega), sI_nn (by omega), mset_n (show ¬ (733 = 732 ∧ nwB tx le a = 6) by omega), t1]
    by_cases c2 : tx (nwB tx le a) = 35
    · have hk : nwK tx le a = false := decide_eq_false (by omega)
      rw [if_pos (show sI (tx (nwB tx le a)) = 35 by rw [c2]; rfl), hk]
      refine ⟨_, rfl, fun h => absurd h (by decide), fun _ => mset_s, fun x y u => mset_n (by omega)⟩
    · have hk : nwK tx le a = true := decide_eq_true ⟨by omega, c2⟩
      rw [if_neg (show ¬ sI (tx (nwB tx le a)) = 35 by rw [sI_35 t3]; exact c2), mlet_e, m_wd (fu := fu) (L := L) hT h7 hle (le - nwB tx le a) fu (nwB tx le a) _ (by omega) (by omega) (by rw [mset_n (by omega), mset_s]) (fun x y u => by rw [mset_n (by omega), mset_n (by omega)]), hk]
      have ee : wdF tx (le - nwB tx le a) (nwB tx le a) = nwE tx le a := rfl
      rw [ee]
      unfold fX19_next_b111
      rw [mlet_e, mset_s]
      refine ⟨_, rfl, fun _ => ⟨?_, ?_, ?_⟩, fun h => absurd h (by decide), fun x y u => ?_⟩
      · rw [mset_n (by omega), mset_s]
      · rw [mset_n (by omega), mset_n (by omega), mset_s]
      · rw [mset_s]
      · rw [mset_n (by omega), mset_n (by omega), mset_n (by omega), mset_n (by omega)]
/-- a line that is being read, up to a -/
def Ld (A M : mwM) (n : Nat) (tx : Nat → Nat) (le a : Nat) : Prop := TxC A n tx ∧ TxM M n tx ∧ A 1 6 = sI le ∧ M 732 7 = sI le ∧ le ≤ n ∧ A 1 5 = sI a ∧ M 732 6 = sI a ∧ a ≤ le ∧ A 1 12 = 0
/-- the word at hand -/
def Hw (A M : mwM) (w e : Nat) : Prop := A 1 8 = sI w ∧ A 1 9 = sI (e - w) ∧ M 732 9 = sI w ∧ M 732 10 = sI e ∧ w < e
/-- both have found the same fault -/
def Fx (A M : mwM) : Prop := ∃ k w, 1 ≤ k ∧ k ≤ 8 ∧ w ≤ 6000 ∧ A 1 12 = sI k ∧ M 732 11 = sI k ∧ A 1 13 = sI w ∧ M 732 12 = sI w
abbrev fW (A A' : mwM) : Prop := ∀ x y, ¬ (x = 1 ∧ (y = 5 ∨ y = 8 ∨ y = 9 ∨ y = 12 ∨ y = 13)) → A' x y = A x y
abbrev fR (M M' : mwM) : Prop := ∀ x y, ¬ (x = 732 ∧ (y = 6 ∨ (9 ≤ y ∧ y ≤ 12))) → M' x y = M x y
theorem Fx_n {A M : mwM} (h : Fx A M) : ¬ A 1 12 = 0 := by
  obtain ⟨k, w, h1, h2, h3, h4, _⟩ := h
  rw [h4, show (0 : Int32) = sI 0 from rfl, sI_eq (by omega) (by omega)]
  omega
theorem TxC_f {A A' : mwM} {n : Nat} {tx : Nat → Nat} (h : TxC A n tx) (hA : ∀ x y, (x = 1 ∧ y = 4) ∨ x = 2 → A' x y = A x y) : TxC A' n tx := by
  refine ⟨by rw [hA _ _ (by omega)]; exact h.1, h.2.1, fun j hj => ?_⟩
  rw [hA _ _ (by omega)]
  exact h.2.2 j hj
theorem TxM_f {M M' : mwM} {n : Nat} {tx : Nat → Nat} (h : TxM M n tx) (hM : ∀ x y, (x = 732 ∧ y = 2) ∨ x = 733 → M' x y = M x y) : TxM M' n tx := by
  refine ⟨by rw [hM _ _ (by omega)]; exact h.1, h.2.1, fun j hj => ?_⟩
  rw [hM _ _ (by omega)]
  exact h.2.2 j hj
theorem c_fail {fu : Nat} {k w : Int32} {A : mwM} {L : mwL} (h : A 1 12 = 0) : DX8_fail fu k w A L = some (mset (mset A 1 12 k) 1 13 w, L) := by
  unfold DX8_fail fX8_fail_b17
  rw [if_pos h, mlet_e, mlet_e]
theorem m_fail {fu : Nat} {k w : Int32} {M : mwM} {L : mwL} : DX19_fail fu k w M L = some (0, mset (mset M 732 11 k) 732 12 w, L) := by
  unfold DX19_fail
  rw [mlet_e, mlet_e]
theorem Fx_i {A M : mwM} {k w : Nat} (h1 : 1 ≤ k) (h2 : k ≤ 8) (h3 : w ≤ 6000) : Fx (mset (mset A 1 12 (sI k)) 1 13 (sI w)) (mset (mset M 732 11 (sI k)) 732 12 (sI w)) := ⟨k, w, h1, h2, h3, by rw [mset_n (by omega), mset_s], by rw [mset_n (by omega), mset_s], mset_s, mset_s⟩
theorem nf_fetch {fu : Nat} {A : mwM} {L : mwL} (h : ¬ A 1 12 = 0) : DX8_fetchWord fu A L = some (0, A, L) := by
  unfold DX8_fetchWord
  rw [if_neg h]
theorem nf_end {fu : Nat} {A : mwM} {L : mwL} (h : ¬ A 1 12 = 0) : DX8_endLine fu A L = some (A, L) := by
  unfold DX8_endLine
  rw [if_neg h]
/-- a word must come -/
theorem st_must {fu n le a : Nat} {A M : mwM} {Lc Lm : mwL} {tx : Nat → Nat} (hfu : 6100 ≤ fu) (h : Ld A M n tx le a) : ∃ A' M', fW A A' ∧ fR M M' ∧ ((nwK tx le a = true ∧ DX8_fetchWord fu A Lc = some (1, A', Lc) ∧ DX19_must fu M Lm = some (1, M', Lm) ∧ Ld A' M' n tx le (nwE tx le a) ∧ Hw A' M' (nwB tx le a) (nwE tx le a)) ∨ (DX8_fetchWord fu A Lc = some (0, A', Lc) ∧ DX19_must fu M Lm = some (0, M', Lm) ∧ Fx A' M')) := by
  obtain ⟨hC, hM, h6, h7, hle, h5, h6', ha, h12⟩ := h
  have hn := hC.2.1
  obtain ⟨A1, e1, e2, e3, e4⟩ := c_next (fu := fu) (L := Lc) hfu hC h5 h6 ha hle
  obtain ⟨M1, m1, m2, m3, m4⟩ := m_next (fu := fu) (L := Lm) hfu hM h6' h7 ha hle
  obtain ⟨b1, b2, b3, b4, b5, b6, b7, _⟩ := nw_b (tx := tx) ha
  have k12 : A1 1 12 = 0 := by rw [e4 _ _ (by omega)]; exact h12
  unfold DX8_fetchWord DX19_must fX8_fetchWord_b29 fX8_fetchWord_b41 fX19_must_b19 fX19_must_b24
  rw [if_pos h12, e1, mb2_s, m1, mb3_s]
  cases hk : nwK tx le a with
  | true =>
    obtain ⟨q1, q2, q3⟩ := e2 hk
    obtain ⟨p1, p2, p3⟩ := m2 hk
    have hlt := b5 hk
    refine ⟨A1, M1, fun x y u => e4 x y (by omega), fun x y u => m4 x y (by omega), Or.inl ⟨rfl, ?_, ?_, ⟨TxC_f hC (fun x y u => e4 x y (by omega)), TxM_f hM (fun x y u => m4 x y (by omega)), by rw [e4 _ _ (by omega)]; exact h6, by rw [m4 _ _ (by omega)]; exact h7, hle, q1, p1, b4, k12⟩, ⟨q2, q3, p2, p3, hlt⟩⟩⟩
    · rw [q3, if_neg (show ¬ sI (nwE tx le a - nwB tx le a) = 0 by rw [show (0 : Int32) = sI 0 from rfl, sI_eq (by omega) (by omega)]; omega), if_neg (show ¬ sI (nwE tx le a - nwB tx le a) ≤ 0 by rw [show (0 : Int32) = sI 0 from rfl, sI_le (by omega) (by omega)]; omega)]
      rfl
    · rw [bI_t, if_neg (by decide)]
      rfl
  | false =>
    obtain ⟨q1, q2, q3⟩ := e3 hk
    have p1 := m3 hk
    refine ⟨mset (mset A1 1 12 (sI 2)) 1 13 (sI le), mset (mset M1 732 11 (sI 2)) 732 12 (sI le), fun x y u => by rw [mset_n (by omega), mset_n (by omega), e4 x y (by omega)], fun x y u => by rw [mset_n (by omega), mset_n (by omega), m4 x y (by omega)], Or.inr ⟨?_, ?_, Fx_i (by omega) (by omega) (by omega)⟩⟩
    · rw [q3, if_pos (show sI 0 = 0 from rfl), c_fail k12, mb2_s, q2, mset_n (show ¬ (1 = 1 ∧ 9 = 13) by omega), mset_n (show ¬ (1 = 1 ∧ 9 = 12) by omega), q3, if_pos (show sI 0 ≤ 0 by decide)]
      rfl
    · rw [bI_f, if_pos rfl, m_fail, mb3_s, if_pos rfl, m4 _ _ (by omega), h7]
      rfl
/-- the line must end -/
theorem st_eol {fu n le a : Nat} {A M : mwM} {Lc Lm : mwL} {tx : Nat → Nat} (hfu : 6100 ≤ fu) (h : Ld A M n tx le a) : ∃ A' M', fW A A' ∧ fR M M' ∧ ((nwK tx le a = false ∧ DX8_endLine fu A Lc = some (A', Lc) ∧ DX19_end fu M Lm = some (1, M', Lm) ∧ Ld A' M' n tx le (nwB tx le a)) ∨ (DX8_endLine fu A Lc = some (A', Lc) ∧ DX19_end fu M Lm = some (0, M', Lm) ∧ Fx A' M')) := by
  obtain ⟨hC, hM, h6, h7, hle, h5, h6', ha, h12⟩ := h
  have hn := hC.2.1
  obtain ⟨A1, e1, e2, e3, e4⟩ := c_next (fu := fu) (L := Lc) hfu hC h5 h6 ha hle
  obtain ⟨M1, m1, m2, m3, m4⟩ := m_next (fu := fu) (L := Lm) hfu hM h6' h7 ha hle
  obtain ⟨b1, b2, b3, b4, b5, b6, b7, _⟩ := nw_b (tx := tx) ha
  have k12 : A1 1 12 = 0 := by rw [e4 _ _ (by omega)]; exact h12
  unfold DX8_endLine DX19_end fX8_endLine_b28 fX19_end_b19 fX19_end_b24
  rw [if_pos h12, e1, mb2_s, m1, mb3_s]
  cases hk : nwK tx le a with
  | true =>
    obtain ⟨q1, q2, q3⟩ := e2 hk
    obtain ⟨p1, p2, p3⟩ := m2 hk
    have hlt := b5 hk
    refine ⟨mset (mset A1 1 12 (sI 2)) 1 13 (sI (nwB tx le a)), mset (mset M1 732 11 (sI 2)) 732 12 (sI (nwB tx le a)), fun x y u => by rw [mset_n (by omega), mset_n (by omega), e4 x y (by omega)], fun x y u => by rw [mset_n (by omega), mset_n (by omega), m4 x y (by omega)], Or.inr ⟨?_, ?_, Fx_i (by omega) (by omega) (by omega)⟩⟩
    · rw [q3, if_neg (show ¬ sI (nwE tx le a - nwB tx le a) ≤ 0 by rw [show (0 : Int32) = sI 0 from rfl, sI_le (by omega) (by omega)]; omega), c_fail k12, mb2_s, q2]
      rfl
    · rw [bI_t, if_neg (by decide), m_fail, mb3_s, if_pos rfl, p2]
      rfl
  | false =>
    obtain ⟨q1, q2, q3⟩ := e3 hk
    have p1 := m3 hk
    refine ⟨A1, M1, fun x y u => e4 x y (by omega), fun x y u => m4 x y (by omega), Or.inl ⟨rfl, ?_, ?_, ⟨TxC_f hC (fun x y u => e4 x y (by omega)), TxM_f hM (fun x y u => m4 x y (by omega)), by rw [e4 _ _ (by omega)]; exact h6, by rw [m4 _ _ (by omega)]; exact h7, hle, q1, p1, b2, k12⟩⟩⟩
    · rw [q3, if_pos (show sI 0 ≤ 0 by decide)]
    · rw [bI_f, if_pos rfl]
      rfl
