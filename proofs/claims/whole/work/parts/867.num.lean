/-! READING: a number must come, within bounds -/
abbrev fRn (M M' : mwM) : Prop := ∀ x y, ¬ (x = 732 ∧ (y = 6 ∨ (9 ≤ y ∧ y ≤ 13))) → M' x y = M x y
theorem c_bounded {fu n w s : Nat} {a1 a2 : Int32} {tx : Nat → Nat} {A : mwM} {L : mwL} (hfu : 20 ≤ fu) (hT : TxC A n tx) (h8 : A 1 8 = sI w) (h9 : A 1 9 = sI s) (hs : 1 ≤ s) (hw : w + s ≤ n) (h12 : A 1 12 = 0) : DX8_boundedNumber fu a1 a2 A L = if nuB tx w s = true ∧ ¬ nuV tx w s < a1 ∧ nuV tx w s ≤ a2 then some (nuV tx w s, A, L) else some (0, mset (mset A 1 12 (sI 5)) 1 13 (sI w), L) := by
  unfold DX8_boundedNumber fX8_boundedNumber_b15 fX8_boundedNumber_b33
  rw [c_isNumber hfu hT h8 h9 hs hw, mb3_s]
  cases hb : nuB tx w s with
  | false =>
    rw [bI_f, if_pos (show (0 : Int32) = 0 from rfl), c_isNumber hfu hT h8 h9 hs hw, mb3_s, hb, bI_f, if_pos (show (0 : Int32) = 0 from rfl), c_fail h12, mb2_s, h8, if_neg (fun z => absurd z.1 (by decide))]
    rfl
  | true =>
    rw [bI_t, if_neg (show ¬ (1 : Int32) = 0 by decide), c_numberAtHand hfu hT h8 h9 hs hw hb, mb3_s, c_isNumber hfu hT h8 h9 hs hw, mb3_s, hb, bI_t, if_neg (show ¬ (1 : Int32) = 0 by decide), c_fail h12, mb2_s, h8]
    by_cases c1 : nuV tx w s < a1
    · rw [if_pos c1, if_neg (fun z => z.2.1 c1)]
      rfl
    · rw [if_neg c1]
      by_cases c2 : nuV tx w s ≤ a2
      · rw [if_pos c2, if_pos ⟨rfl, c1, c2⟩]
      · rw [if_neg c2, if_neg (fun z => c2 z.2.2)]
        rfl
theorem nf_number {fu : Nat} {a1 a2 : Int32} {A : mwM} {L : mwL} (h : ¬ A 1 12 = 0) : DX8_number fu a1 a2 A L = some (0, A, L) := by
  unfold DX8_number fX8_number_b17
  rw [nf_fetch h, mb3_s, if_pos rfl]
theorem Ld_n {A M M' : mwM} {n le a : Nat} {tx : Nat → Nat} (h : Ld A M n tx le a) (hM : ∀ x y, (x = 732 ∧ (y = 2 ∨ y = 6 ∨ y = 7)) ∨ x = 733 → M' x y = M x y) : Ld A M' n tx le a := by
  obtain ⟨h1, h2, h3, h4, h5, h6, h7, h8, h9⟩ := h
  exact ⟨h1, TxM_f h2 (fun x y u => hM x y (by omega)), h3, by rw [hM _ _ (by omega)]; exact h4, h5, h6, by rw [hM _ _ (by omega)]; exact h7, h8, h9⟩
theorem st_number {fu n le a : Nat} {a1 a2 : Int32} {A M : mwM} {Lc Lm : mwL} {tx : Nat → Nat} (hfu : 6100 ≤ fu) (h : Ld A M n tx le a) : ∃ A' M', fW A A' ∧ fRn M M' ∧ ((nwK tx le a = true ∧ nuB tx (nwB tx le a) (nwE tx le a - nwB tx le a) = true ∧ ¬ nuV tx (nwB tx le a) (nwE tx le a - nwB tx le a) < a1 ∧ nuV tx (nwB tx le a) (nwE tx le a - nwB tx le a) ≤ a2 ∧ DX8_number fu a1 a2 A Lc = some (nuV tx (nwB tx le a) (nwE tx le a - nwB tx le a), A', Lc) ∧ DX19_number fu a1 a2 M Lm = some (1, M', Lm) ∧ M' 732 13 = nuV tx (nwB tx le a) (nwE tx le a - nwB tx le a) ∧ Ld A' M' n tx le (nwE tx le a) ∧ Hw A' M' (nwB tx le a) (nwE tx le a)) ∨ (DX8_number fu a1 a2 A Lc = some (0, A', Lc) ∧ DX19_number fu a1 a2 M Lm = some (0, M', Lm) ∧ Fx A' M')) := by
  obtain ⟨A1, M1, f1, f2, hr⟩ := st_must (fu := fu) (Lc := Lc) (Lm := Lm) hfu h
  unfold DX8_number DX19_number fX8_number_b17
  rcases hr with ⟨hk, e1, e2, hL, hH⟩ | ⟨e1, e2, hX⟩
  · obtain ⟨w8, w9, m9, m10, hlt⟩ := id hH
    obtain ⟨l1, l2, l3, l4, l5, l6, l7, l8, l9⟩ := id hL
    have hn := l1.2.1
    rw [e1, mb3_s, if_neg (show ¬ (1 : Int32) = 0 by decide), e2, mb3_s, if_neg (show ¬ (1 : Int32) = 0 by decide), c_bounded (by omega) l1 w8 w9 (by omega) (by omega) l9, m_isNumber hfu l2 m9 m10 hlt (by omega), mb3_s]
    generalize hx : nuV tx (nwB tx le a) (nwE tx le a - nwB tx le a) = x
    have fM1 : ∀ v : Int32, fRn M (mset M1 732 13 v) := fun v p y u => by rw [mset_n (by omega), f2 p y (by omega)]
    -- both fail
    have bad : ∀ v : Int32, ∃ A' M', fW A A' ∧ fRn M M' ∧ some ((0 : Int32), mset (mset A1 1 12 (sI 5)) 1 13 (sI (nwB tx le a)), Lc) = some (0, A', Lc) ∧ fX19_number_b32 fu a1 a2 (mset M1 732 13 v) Lm = some (0, M', Lm) ∧ Fx A' M' := by
      intro v
      refine ⟨_, _, ?_, ?_, rfl, ?_, Fx_i (k := 5) (w := nwB tx le a) (M := mset M1 732 13 v) (by omega) (by omega) (by omega)⟩
      · intro p y u
        rw [mset_n (by omega), mset_n (by omega), f1 p y u]
      · intro p y u
        rw [mset_n (by omega), mset_n (by omega), fM1 v p y u]
      · unfold fX19_number_b32 fX19_number_b44 fX19_number_b49
        rw [m_fail, mb3_s, if_pos (show (0 : Int32) = 0 from rfl), mset_n (show ¬ (732 = 732 ∧ 9 = 13) by omega), m9]
        rfl
    cases hb : nuB tx (nwB tx le a) (nwE tx le a - nwB tx le a) with
    | false =>
      obtain ⟨A', M', b1, b2, b3, b4, b5⟩ := bad 0
      rw [if_neg (fun z => absurd z.1 (by decide)), bI_f, if_pos (show (0 : Int32) = 0 from rfl), if_neg (show ¬ false = true by decide), mb3_s]
      exact ⟨A', M', b1, b2, Or.inr ⟨b3, b4, b5⟩⟩
    | true =>
      rw [bI_t, if_neg (show ¬ (1 : Int32) = 0 by decide), if_pos (show true = true from rfl), mset_s]
      by_cases c1 : x < a1
      · obtain ⟨A', M', b1, b2, b3, b4, b5⟩ := bad x
        rw [if_neg (fun z => z.2.1 c1), if_pos c1, mb3_s]
        exact ⟨A', M', b1, b2, Or.inr ⟨b3, b4, b5⟩⟩
      · rw [if_neg c1]
        by_cases c2 : x ≤ a2
        · rw [if_pos ⟨rfl, c1, c2⟩, if_pos c2, mb3_s]
          refine ⟨A1, mset M1 732 13 x, f1, fM1 x, Or.inl ⟨hk, rfl, c1, c2, rfl, ?_, mset_s, Ld_n hL (fun p y u => mset_n (by omega)), w8, w9, by rw [mset_n (by omega)]; exact m9, by rw [mset_n (by omega)]; exact m10, hlt⟩⟩
          unfold fX19_number_b44 fX19_number_b49
          rfl
        · obtain ⟨A', M', b1, b2, b3, b4, b5⟩ := bad x
          rw [if_neg (fun z => c2 z.2.2), if_neg c2, mb3_s]
          exact ⟨A', M', b1, b2, Or.inr ⟨b3, b4, b5⟩⟩
  · rw [e1, mb3_s, if_pos (show (0 : Int32) = 0 from rfl), e2, mb3_s, if_pos (show (0 : Int32) = 0 from rfl)]
    exact ⟨A1, M1, f1, fun p y u => f2 p y (by omega), Or.inr ⟨rfl, rfl, hX⟩⟩
theorem nu_nat {tx : Nat → Nat} {w s lo hi : Nat} (hb : nuB tx w s = true) (h1 : ¬ nuV tx w s < sI lo) (h2 : nuV tx w s ≤ sI hi) (hlo : lo < 2000000000) (hhi : hi < 2000000000) : ∃ v, nuV tx w s = sI v ∧ lo ≤ v ∧ v ≤ hi := by
  obtain ⟨d1, d2, d3⟩ := of_decide_eq_true hb
  have hv := hv_lt (tx := tx) (b := w + sgN tx w) (s - sgN tx w) d3
  have h9 : 10 ^ (s - sgN tx w) ≤ 10 ^ 9 := Nat.pow_le_pow_right (by omega) d2
  unfold nuV at h1 h2 ⊢
  generalize hvN tx (w + sgN tx w) (s - sgN tx w) = v at hv h1 h2 ⊢
  by_cases c : tx w = 45
  · rw [if_pos c] at h1 h2 ⊢
    by_cases v0 : v = 0
    · subst v0
      rw [show -(sI 0) = sI 0 by decide] at h1 h2 ⊢
      rw [sI_lt (by omega) (by omega)] at h1
      exact ⟨0, rfl, by omega, by omega⟩
    · exfalso
      apply h1
      rw [Int32.lt_iff_toInt_lt]
      have t1 : (sI v).toInt = v := sI_toInt (by omega)
      have t2 : (sI lo).toInt = lo := sI_toInt (by omega)
      have t3 : (-(sI v)).toInt = -(v : Int) := by
        rw [Int32.toInt_neg, t1]
        exact Int.bmod_eq_of_le (by omega) (by omega)
      rw [t2, t3]
      omega
  · rw [if_neg c] at h1 h2 ⊢
    rw [sI_lt (by omega) (by omega)] at h1
    rw [sI_le (by omega) (by omega)] at h2
    exact ⟨v, rfl, by omega, by omega⟩
