/-! READING: names and numbers -/
def ltA (c : Nat) : Bool := decide (97 ≤ c ∧ c ≤ 122)
def dgt (c : Nat) : Bool := decide (48 ≤ c ∧ c ≤ 57)
theorem c_letter {fu c : Nat} {A : mwM} {L : mwL} (h : c < 256) : DX8_isLetter fu (sI c) A L = some (bI (ltA c), A, L) := by
  unfold DX8_isLetter fX8_isLetter_b16 fX8_isLetter_b17 ltA
  by_cases c1 : c < 97
  · rw [if_pos (show sI c < 97 by rw [show (97 : Int32) = sI 97 from rfl, sI_lt (by omega) (by omega)]; exact c1), decide_eq_false (by omega)]
    rfl
  · rw [if_neg (show ¬ sI c < 97 by rw [show (97 : Int32) = sI 97 from rfl, sI_lt (by omega) (by omega)]; exact c1)]
    by_cases c2 : 122 < c
    · rw [if_pos (show 122 < sI c by rw [show (122 : Int32) = sI 122 from rfl, sI_lt (by omega) (by omega)]; exact c2), decide_eq_false (by omega)]
      rfl
    · rw [if_neg (show ¬ 122 < sI c by rw [show (122 : Int32) = sI 122 from rfl, sI_lt (by omega) (by omega)]; exact c2), decide_eq_true (by omega)]
      rfl
theorem c_digit {fu c : Nat} {A : mwM} {L : mwL} (h : c < 256) : DX8_isDigit fu (sI c) A L = some (bI (dgt c), A, L) := by
  unfold DX8_isDigit fX8_isDigit_b16 fX8_isDigit_b17 dgt
  by_cases c1 : c < 48
  · rw [if_pos (show sI c < 48 by rw [show (48 : Int32) = sI 48 from rfl, sI_lt (by omega) (by omega)]; exact c1), decide_eq_false (by omega)]
    rfl
  · rw [if_neg (show ¬ sI c < 48 by rw [show (48 : Int32) = sI 48 from rfl, sI_lt (by omega) (by omega)]; exact c1)]
    by_cases c2 : 57 < c
    · rw [if_pos (show 57 < sI c by rw [show (57 : Int32) = sI 57 from rfl, sI_lt (by omega) (by omega)]; exact c2), decide_eq_false (by omega)]
      rfl
    · rw [if_neg (show ¬ 57 < sI c by rw [show (57 : Int32) = sI 57 from rfl, sI_lt (by omega) (by omega)]; exact c2), decide_eq_true (by omega)]
      rfl
theorem m_letter {fu c : Nat} {A : mwM} {L : mwL} (h : c < 256) : DX19_letter fu (sI c) A L = some (bI (ltA c), A, L) := c_letter (fu := fu) h
theorem m_digit {fu c : Nat} {A : mwM} {L : mwL} (h : c < 256) : DX19_digit fu (sI c) A L = some (bI (dgt c), A, L) := c_digit (fu := fu) h
def nmB (tx : Nat → Nat) (w s : Nat) : Bool := decide (1 ≤ s ∧ s ≤ 10 ∧ ltA (tx w) = true ∧ ∀ i, i < s → (ltA (tx (w + i)) || dgt (tx (w + i))) = true)
theorem c_isName {fu n w s : Nat} {tx : Nat → Nat} {A : mwM} {L : mwL} (hfu : 20 ≤ fu) (hT : TxC A n tx) (h8 : A 1 8 = sI w) (h9 : A 1 9 = sI s) (hw : w + s ≤ n) : DX8_isName fu A L = some (bI (nmB tx w s), A, L) := by
  have hn := hT.2.1
  unfold DX8_isName fX8_isName_b32
  rw [h9, h8]
  by_cases c1 : s < 1
  · have : nmB tx w s = false := decide_eq_false (by omega)
    rw [if_pos (show sI s < 1 by rw [show (1 : Int32) = sI 1 from rfl, sI_lt (by omega) (by omega)]; exact c1), this]
    rfl
  · rw [if_neg (show ¬ sI s < 1 by rw [show (1 : Int32) = sI 1 from rfl, sI_lt (by omega) (by omega)]; exact c1)]
    by_cases c2 : 10 < s
    · have : nmB tx w s = false := decide_eq_false (by omega)
      rw [if_pos (show 10 < sI s by rw [show (10 : Int32) = sI 10 from rfl, sI_lt (by omega) (by omega)]; exact c2), this]
      rfl
    · obtain ⟨t1, t2, t3⟩ := hT.2.2 w (by omega)
      rw [if_neg (show ¬ 10 < sI s by rw [show (10 : Int32) = sI 10 from rfl, sI_lt (by omega) (by omega)]; exact c2), mck_s (by omega) (by omega), sI_nn (by omega), t1, c_letter t3, mb3_s]
      cases hl : ltA (tx w) with
      | false =>
        have : nmB tx w s = false := decide_eq_false (fun z => by rw [hl] at z; exact absurd z.2.2.1 (by decide))
        rw [bI_f, if_pos (show (0 : Int32) = 0 from rfl), this]
        rfl
      | true =>
        rw [bI_t, if_neg (show ¬ (1 : Int32) = 0 by decide)]
        have key : ∀ (r q i : Nat), i + r = s → r < q → (∀ j, j < i → (ltA (tx (w + j)) || dgt (tx (w + j))) = true) → fX8_isName_h36 fu q (sI i, A, L) = some (bI (nmB tx w s), A, L) := by
          intro r
          induction r with
          | zero =>
            intro q i hi hq hp
            obtain ⟨q, rfl⟩ : ∃ y, q = y + 1 := ⟨q - 1, by omega⟩
            have : nmB tx w s = true := decide_eq_true ⟨by omega, by omega, hl, fun j hj => hp j (by omega)⟩
            show fX8_isName_i36 fu (fX8_isName_h36 fu q) (sI i) A L = _
            unfold fX8_isName_i36
            rw [h9, if_pos (show sI s ≤ sI i by rw [sI_le (by omega) (by omega)]; omega), this]
            rfl
          | succ r ih =>
            intro q i hi hq hp
            obtain ⟨q, rfl⟩ : ∃ y, q = y + 1 := ⟨q - 1, by omega⟩
            obtain ⟨t1, t2, t3⟩ := hT.2.2 (w + i) (by omega)
            have nx : (ltA (tx (w + i)) || dgt (tx (w + i))) = true → fX8_isName_h36 fu q (sI (i + 1), A, L) = some (bI (nmB tx w s), A, L) := fun hz => ih q (i + 1) (by omega) (by omega) (fun j hj => by
              by_cases e : j = i
              · rw [e]; exact hz
              · exact hp j (by omega))
            show fX8_isName_i36 fu (fX8_isName_h36 fu q) (sI i) A L = _
            generalize hH : fX8_isName_h36 fu q = H at nx
            unfold fX8_isName_i36 fX8_isName_b80
            rw [h9, if_neg (show ¬ sI s ≤ sI i by rw [sI_le (by omega) (by omega)]; omega), h8, sI_add, mck_s (by omega) (by omega), sI_nn (by omega), t1, c_letter t3, mb3_s]
            cases h1 : ltA (tx (w + i)) with
            | true =>
              rw [bI_t, if_neg (show ¬ (1 : Int32) = 0 by decide), mlet_e, sI_1]
              exact nx (by rw [h1]; rfl)
            | false =>
              rw [bI_f, if_pos (show (0 : Int32) = 0 from rfl), h8, sI_add, mck_s (by omega) (by omega), sI_nn (by omega), t1, c_digit t3, mb3_s]
              cases h2 : dgt (tx (w + i)) with
              | true =>
                rw [bI_t, if_neg (show ¬ (1 : Int32) = 0 by decide), mlet_e, sI_1]
                exact nx (by rw [h2, Bool.or_true])
              | false =>
                have : nmB tx w s = false := decide_eq_false (fun z => by have := z.2.2.2 i (by omega); rw [h1, h2] at this; exact absurd this (by decide))
                rw [bI_f, if_pos (show (0 : Int32) = 0 from rfl), this]
                rfl
        exact key (s - 1) fu 1 (by omega) (by omega) (fun j hj => by rw [show j = 0 from by omega, Nat.add_zero, hl]; rfl)
theorem m_isName {fu n w e : Nat} {tx : Nat → Nat} {M : mwM} {L : mwL} (hfu : 6100 ≤ fu) (hT : TxM M n tx) (h9 : M 732 9 = sI w) (h10 : M 732 10 = sI e) (hw : w < e) (he : e ≤ n) : DX19_isName fu M L = some (bI (nmB tx w (e - w)), M, L) := by
  have hn := hT.2.1
  obtain ⟨t1, t2, t3⟩ := hT.2.2 w (by omega)
  have kF : ∀ (r q i : Nat), i + r = e → r < q → fX19_isName_h40 fu q (0, sI i, M, L) = some (0, M, L) := by
    intro r
    induction r with
    | zero =>
      intro q i hi hq
      obtain ⟨q, rfl⟩ : ∃ y, q = y + 1 := ⟨q - 1, by omega⟩
      show fX19_isName_i40 fu (fX19_isName_h40 fu q) 0 (sI i) M L = _
      unfold fX19_isName_i40
      rw [h10, if_pos (show sI e ≤ sI i by rw [sI_le (by omega) (by omega)]; omega)]
      rfl
    | succ r ih =>
      intro q i hi hq
      obtain ⟨q, rfl⟩ : ∃ y, q = y + 1 := ⟨q - 1, by omega⟩
      show fX19_isName_i40 fu (fX19_isName_h40 fu q) 0 (sI i) M L = _
      have nx := ih q (i + 1) (by omega) (by omega)
      generalize hH : fX19_isName_h40 fu q = H at nx
      unfold fX19_isName_i40 fX19_isName_b80 fX19_isName_b81
      rw [h10, if_neg (show ¬ sI e ≤ sI i by rw [sI_le (by omega) (by omega)]; omega), if_pos (show (0 : Int32) = 0 from rfl), mlet_e, sI_1]
      exact nx
  have kT : ∀ (r q i : Nat), i + r = e → r < q → w ≤ i → e - w ≤ 10 → ltA (tx w) = true → (∀ j, w ≤ j → j < i → (ltA (tx j) || dgt (tx j)) = true) → fX19_isName_h40 fu q (1, sI i, M, L) = some (bI (nmB tx w (e - w)), M, L) := by
    intro r
    induction r with
    | zero =>
      intro q i hi hq hwi h10' hl hp
      obtain ⟨q, rfl⟩ : ∃ y, q = y + 1 := ⟨q - 1, by omega⟩
      have : nmB tx w (e - w) = true := decide_eq_true ⟨by omega, h10', hl, fun j hj => hp (w + j) (by omega) (by omega)⟩
      show fX19_isName_i40 fu (fX19_isName_h40 fu q) 1 (sI i) M L = _
      unfold fX19_isName_i40
      rw [h10, if_pos (show sI e ≤ sI i by rw [sI_le (by omega) (by omega)]; omega), this]
      rfl
    | succ r ih =>
      intro q i hi hq hwi h10' hl hp
      obtain ⟨q, rfl⟩ : ∃ y, q = y + 1 := ⟨q - 1, by omega⟩
      obtain ⟨u1, u2, u3⟩ := hT.2.2 i (by omega)
      have nx : (ltA (tx i) || dgt (tx i)) = true → fX19_isName_h40 fu q (1, sI (i + 1), M, L) = some (bI (nmB tx w (e - w)), M, L) := fun hz => ih q (i + 1) (by omega) (by omega) (by omega) h10' hl (fun j hj1 hj2 => by
        by_cases ee : j = i
        · rw [ee]; exact hz
        · exact hp j hj1 (by omega))
      have nf := kF r q (i + 1) (by omega) (by omega)
      show fX19_isName_i40 fu (fX19_isName_h40 fu q) 1 (sI i) M L = _
      generalize hH : fX19_isName_h40 fu q = H at nx nf
      unfold fX19_isName_i40 fX19_isName_b80 fX19_isName_b76 fX19_isName_b81
      rw [h10, if_neg (show ¬ sI e ≤ sI i by rw [sI_le (by omega) (by omega)]; omega), if_neg (show ¬ (1 : Int32) = 0 by decide), mck_s (by omega) (by omega), sI_nn (by omega), u1, m_letter u3, mb3_s]
      cases h1 : ltA (tx i) with
      | true =>
        rw [bI_t, if_neg (show ¬ (1 : Int32) = 0 by decide), mlet_e, sI_1]
        exact nx (by rw [h1]; rfl)
      | false =>
        rw [bI_f, if_pos (show (0 : Int32) = 0 from rfl), mck_s (by omega) (by omega), u1, m_digit u3, mb3_s]
        cases h2 : dgt (tx i) with
        | true =>
          rw [bI_t, if_neg (show ¬ (1 : Int32) = 0 by decide), mlet_e, sI_1]
          exact nx (by rw [h2, Bool.or_true])
        | false =>
          have : nmB tx w (e - w) = false := decide_eq_false (fun z => by have := z.2.2.2 (i - w) (by omega); rw [show w + (i - w) = i from by omega, h1, h2] at this; exact absurd this (by decide))
          rw [bI_f, if_pos (show (0 : Int32) = 0 from rfl), mlet_e, sI_1, this]
          exact nf
  unfold DX19_isName fX19_isName_b33 fX19_isName_b34
  rw [h9, h10, sI_sub (by omega), mlet_e]
  by_cases c2 : 10 < e - w
  · have : nmB tx w (e - w) = false := decide_eq_false (by omega)
    rw [if_pos (show 10 < sI (e - w) by rw [show (10 : Int32) = sI 10 from rfl, sI_lt (by omega) (by omega)]; exact c2), this]
    exact kF (e - w) fu w (by omega) (by omega)
  · rw [if_neg (show ¬ 10 < sI (e - w) by rw [show (10 : Int32) = sI 10 from rfl, sI_lt (by omega) (by omega)]; exact c2), mck_s (by omega) (by omega), sI_nn (by omega), t1, m_letter t3, mb3_s]
    cases hl : ltA (tx w) with
    | false =>
      have : nmB tx w (e - w) = false := decide_eq_false (fun z => by rw [hl] at z; exact absurd z.2.2.1 (by decide))
      rw [bI_f, if_pos (show (0 : Int32) = 0 from rfl), h9, mlet_e, this]
      exact kF (e - w) fu w (by omega) (by omega)
    | true =>
      rw [bI_t, if_neg (show ¬ (1 : Int32) = 0 by decide), h9, mlet_e]
      exact kT (e - w) fu w (by omega) (by omega) (by omega) (by omega) hl (fun j u1 u2 => by omega)
