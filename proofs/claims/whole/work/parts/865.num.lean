/-! READING: numbers -/
def sgN (tx : Nat → Nat) (w : Nat) : Nat := if tx w = 45 then 1 else 0
def nuB (tx : Nat → Nat) (w s : Nat) : Bool := decide (sgN tx w < s ∧ s - sgN tx w ≤ 9 ∧ ∀ i, i < s - sgN tx w → dgt (tx (w + sgN tx w + i)) = true)
def hvN (tx : Nat → Nat) (b : Nat) : Nat → Nat
  | 0 => 0
  | m + 1 => 10 * hvN tx b m + (tx (b + m) - 48)
def nuV (tx : Nat → Nat) (w s : Nat) : Int32 := if tx w = 45 then -(sI (hvN tx (w + sgN tx w) (s - sgN tx w))) else sI (hvN tx (w + sgN tx w) (s - sgN tx w))
theorem hv_lt {tx : Nat → Nat} {b : Nat} : ∀ m, (∀ i, i < m → dgt (tx (b + i)) = true) → hvN tx b m < 10 ^ m := by
  intro m
  induction m with
  | zero => intro _; show 0 < 1; omega
  | succ m ih =>
    intro h
    have h1 := ih (fun i hi => h i (by omega))
    have h2 := of_decide_eq_true (h m (by omega))
    show 10 * hvN tx b m + (tx (b + m) - 48) < 10 ^ (m + 1)
    rw [Nat.pow_succ]
    omega
theorem sI_45 {x : Nat} (h : x < 256) : (sI x = 45) ↔ x = 45 := by rw [show (45 : Int32) = sI 45 from rfl, sI_eq (by omega) (by omega)]
theorem c_isNumber {fu n w s : Nat} {tx : Nat → Nat} {A : mwM} {L : mwL} (hfu : 20 ≤ fu) (hT : TxC A n tx) (h8 : A 1 8 = sI w) (h9 : A 1 9 = sI s) (hs : 1 ≤ s) (hw : w + s ≤ n) : DX8_isNumber fu A L = some (bI (nuB tx w s), A, L) := by
  have hn := hT.2.1
  obtain ⟨t1, t2, t3⟩ := hT.2.2 w (by omega)
  have b26 : fX8_isNumber_b26 fu (sI (sgN tx w)) A L = some (bI (nuB tx w s), A, L) := by
    have hg : sgN tx w ≤ 1 := by unfold sgN; split <;> omega
    unfold fX8_isNumber_b26 fX8_isNumber_b48
    rw [h9, sI_sub (by omega)]
    by_cases c1 : s - sgN tx w < 1
    · have : nuB tx w s = false := decide_eq_false (by omega)
      rw [if_pos (show sI (s - sgN tx w) < 1 by rw [show (1 : Int32) = sI 1 from rfl, sI_lt (by omega) (by omega)]; exact c1), this]
      rfl
    · rw [if_neg (show ¬ sI (s - sgN tx w) < 1 by rw [show (1 : Int32) = sI 1 from rfl, sI_lt (by omega) (by omega)]; exact c1)]
      by_cases c2 : s - sgN tx w ≤ 9
      · rw [if_pos (show sI (s - sgN tx w) ≤ 9 by rw [show (9 : Int32) = sI 9 from rfl, sI_le (by omega) (by omega)]; exact c2)]
        have key : ∀ (r q i : Nat), i + r = s → r < q → sgN tx w ≤ i → (∀ j, j < i - sgN tx w → dgt (tx (w + sgN tx w + j)) = true) → fX8_isNumber_h52 fu q (sI i, A, L) = some (bI (nuB tx w s), A, L) := by
          intro r
          induction r with
          | zero =>
            intro q i hi hq hgi hp
            obtain ⟨q, rfl⟩ : ∃ y, q = y + 1 := ⟨q - 1, by omega⟩
            have : nuB tx w s = true := decide_eq_true ⟨by omega, by omega, fun j hj => hp j (by omega)⟩
            show fX8_isNumber_i52 fu (fX8_isNumber_h52 fu q) (sI i) A L = _
            unfold fX8_isNumber_i52
            rw [h9, if_pos (show sI s ≤ sI i by rw [sI_le (by omega) (by omega)]; omega), this]
            rfl
          | succ r ih =>
            intro q i hi hq hgi hp
            obtain ⟨q, rfl⟩ : ∃ y, q = y + 1 := ⟨q - 1, by omega⟩
            obtain ⟨u1, u2, u3⟩ := hT.2.2 (w + i) (by omega)
            show fX8_isNumber_i52 fu (fX8_isNumber_h52 fu q) (sI i) A L = _
            unfold fX8_isNumber_i52
            rw [h9, if_neg (show ¬ sI s ≤ sI i by rw [sI_le (by omega) (by omega)]; omega), h8, sI_add, mck_s (by omega) (by omega), sI_nn (by omega), u1, c_digit u3, mb3_s]
            cases hd : dgt (tx (w + i)) with
            | true =>
              rw [bI_t, if_neg (show ¬ (1 : Int32) = 0 by decide), mlet_e, sI_1]
              refine ih q (i + 1) (by omega) (by omega) (by omega) (fun j hj => ?_)
              by_cases ee : j = i - sgN tx w
              · rw [ee, show w + sgN tx w + (i - sgN tx w) = w + i from by omega]; exact hd
              · exact hp j (by omega)
            | false =>
              have : nuB tx w s = false := decide_eq_false (fun z => by have := z.2.2 (i - sgN tx w) (by omega); rw [show w + sgN tx w + (i - sgN tx w) = w + i from by omega, hd] at this; exact absurd this (by decide))
              rw [bI_f, if_pos (show (0 : Int32) = 0 from rfl), this]
              rfl
        exact key (s - sgN tx w) fu (sgN tx w) (by omega) (by omega) (Nat.le_refl _) (fun j hj => by omega)
      · have : nuB tx w s = false := decide_eq_false (by omega)
        rw [if_neg (show ¬ sI (s - sgN tx w) ≤ 9 by rw [show (9 : Int32) = sI 9 from rfl, sI_le (by omega) (by omega)]; exact c2), this]
        rfl
  rw [← b26]
  unfold DX8_isNumber fX8_isNumber_b25
  rw [h9, if_neg (show ¬ sI s ≤ 0 by rw [show (0 : Int32) = sI 0 from rfl, sI_le (by omega) (by omega)]; omega), h8, mck_s (by omega) (by omega), sI_nn (by omega), t1]
  by_cases c : tx w = 45
  · rw [if_pos (show sI (tx w) = 45 by rw [c]; rfl), show sgN tx w = 1 from if_pos c]
    rfl
  · rw [if_neg (show ¬ sI (tx w) = 45 by rw [sI_45 t3]; exact c), show sgN tx w = 0 from if_neg c]
    rfl
theorem c_numberAtHand {fu n w s : Nat} {tx : Nat → Nat} {A : mwM} {L : mwL} (hfu : 20 ≤ fu) (hT : TxC A n tx) (h8 : A 1 8 = sI w) (h9 : A 1 9 = sI s) (hs : 1 ≤ s) (hw : w + s ≤ n) (hb : nuB tx w s = true) : DX8_numberAtHand fu A L = some (nuV tx w s, A, L) := by
  have hn := hT.2.1
  obtain ⟨t1, t2, t3⟩ := hT.2.2 w (by omega)
  obtain ⟨b1, b2, b3⟩ := of_decide_eq_true hb
  have key : ∀ (r q m : Nat) (v1 : Int32), m + r = s - sgN tx w → r < q → fX8_numberAtHand_h24 fu q (v1, sI (hvN tx (w + sgN tx w) m), sI (sgN tx w + m), A, L) = some (if v1 = 1 then -(sI (hvN tx (w + sgN tx w) (s - sgN tx w))) else sI (hvN tx (w + sgN tx w) (s - sgN tx w)), A, L) := by
    intro r
    induction r with
    | zero =>
      intro q m v1 hm hq
      obtain ⟨q, rfl⟩ : ∃ y, q = y + 1 := ⟨q - 1, by omega⟩
      show fX8_numberAtHand_i24 fu (fX8_numberAtHand_h24 fu q) v1 (sI (hvN tx (w + sgN tx w) m)) (sI (sgN tx w + m)) A L = _
      unfold fX8_numberAtHand_i24 fX8_numberAtHand_b69
      rw [h9, if_pos (show sI s ≤ sI (sgN tx w + m) by rw [sI_le (by omega) (by omega)]; omega), show m = s - sgN tx w from by omega]
      by_cases c : v1 = 1
      · rw [if_pos c, if_pos c]
      · rw [if_neg c, if_neg c]
    | succ r ih =>
      intro q m v1 hm hq
      obtain ⟨q, rfl⟩ : ∃ y, q = y + 1 := ⟨q - 1, by omega⟩
      obtain ⟨u1, u2, u3⟩ := hT.2.2 (w + (sgN tx w + m)) (by omega)
      have hd := of_decide_eq_true (b3 m (by omega))
      rw [show w + sgN tx w + m = w + (sgN tx w + m) from by omega] at hd
      show fX8_numberAtHand_i24 fu (fX8_numberAtHand_h24 fu q) v1 (sI (hvN tx (w + sgN tx w) m)) (sI (sgN tx w + m)) A L = _
      unfold fX8_numberAtHand_i24
      rw [h9, if_neg (show ¬ sI s ≤ sI (sgN tx w + m) by rw [sI_le (by omega) (by omega)]; omega), h8, sI_add, mck_s (by omega) (by omega), sI_nn (by omega), u1, mlet_e, mlet_e, show sI (tx (w + (sgN tx w + m))) - 48 = sI (tx (w + (sgN tx w + m)) - 48) from sI_sub (b := 48) (by omega), show (10 : Int32) * sI (hvN tx (w + sgN tx w) m) = sI (10 * hvN tx (w + sgN tx w) m) from sI_lml, sI_add, sI_1]
      have := ih q (m + 1) v1 (by omega) (by omega)
      rw [show hvN tx (w + sgN tx w) (m + 1) = 10 * hvN tx (w + sgN tx w) m + (tx (w + (sgN tx w + m)) - 48) from by rw [← Nat.add_assoc]; rfl, show sgN tx w + (m + 1) = sgN tx w + m + 1 from rfl] at this
      exact this
  have k0 := key (s - sgN tx w) fu 0 (sI (sgN tx w)) (by omega) (by omega)
  unfold DX8_numberAtHand fX8_numberAtHand_b19 nuV
  rw [h8, mck_s (by omega) (by omega), sI_nn (by omega), t1]
  by_cases c : tx w = 45
  · rw [show sgN tx w = 1 from if_pos c] at k0 ⊢
    rw [if_pos (show sI (tx w) = 45 by rw [c]; rfl), if_pos c]
    rw [if_pos (show sI 1 = 1 from rfl)] at k0
    exact k0
  · rw [show sgN tx w = 0 from if_neg c] at k0 ⊢
    rw [if_neg (show ¬ sI (tx w) = 45 by rw [sI_45 t3]; exact c), if_neg c]
    rw [if_neg (show ¬ sI 0 = 1 by decide)] at k0
    exact k0
