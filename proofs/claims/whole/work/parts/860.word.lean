/-! READING: words -/
def spF (tx : Nat → Nat) : Nat → Nat → Nat
  | 0, a => a
  | r + 1, a => if tx a = 32 then spF tx r (a + 1) else a
def wdF (tx : Nat → Nat) : Nat → Nat → Nat
  | 0, a => a
  | r + 1, a => if tx a = 32 then a else wdF tx r (a + 1)
theorem sp_b {tx : Nat → Nat} : ∀ r a, a ≤ spF tx r a ∧ spF tx r a ≤ a + r ∧ (spF tx r a < a + r → tx (spF tx r a) ≠ 32) := by
  intro r
  induction r with
  | zero => intro a; exact ⟨Nat.le_refl _, Nat.le_refl _, fun h => absurd h (by show ¬ a < a + 0; omega)⟩
  | succ r ih =>
    intro a
    unfold spF
    by_cases c : tx a = 32
    · rw [if_pos c]
      obtain ⟨h1, h2, h3⟩ := ih (a + 1)
      exact ⟨by omega, by omega, fun h => h3 (by omega)⟩
    · rw [if_neg c]
      exact ⟨Nat.le_refl _, by omega, fun _ => c⟩
theorem wd_b {tx : Nat → Nat} : ∀ r a, a ≤ wdF tx r a ∧ wdF tx r a ≤ a + r ∧ (wdF tx r a < a + r → tx (wdF tx r a) = 32) ∧ ∀ i, a ≤ i → i < wdF tx r a → tx i ≠ 32 := by
  intro r
  induction r with
  | zero => intro a; exact ⟨Nat.le_refl _, Nat.le_refl _, fun h => absurd h (by show ¬ a < a + 0; omega), fun i h1 h2 => absurd h2 (by show ¬ i < a; omega)⟩
  | succ r ih =>
    intro a
    unfold wdF
    by_cases c : tx a = 32
    · rw [if_pos c]
      exact ⟨Nat.le_refl _, by omega, fun _ => c, fun i h1 h2 => by omega⟩
    · rw [if_neg c]
      obtain ⟨h1, h2, h3, h4⟩ := ih (a + 1)
      refine ⟨by omega, by omega, fun h => h3 (by omega), fun i u1 u2 => ?_⟩
      by_cases e : i = a
      · rw [e]; exact c
      · exact h4 i (by omega) u2
/-- where the next word begins, whether there is one, where it ends -/
def nwB (tx : Nat → Nat) (le a : Nat) : Nat := spF tx (le - a) a
def nwK (tx : Nat → Nat) (le a : Nat) : Bool := decide (nwB tx le a < le ∧ tx (nwB tx le a) ≠ 35)
def nwE (tx : Nat → Nat) (le a : Nat) : Nat := wdF tx (le - nwB tx le a) (nwB tx le a)
theorem nw_b {tx : Nat → Nat} {le a : Nat} (h : a ≤ le) : a ≤ nwB tx le a ∧ nwB tx le a ≤ le ∧ nwB tx le a ≤ nwE tx le a ∧ nwE tx le a ≤ le ∧ (nwK tx le a = true → nwB tx le a < nwE tx le a) ∧ (nwE tx le a < le → tx (nwE tx le a) = 32) ∧ (nwK tx le a = true → tx a = 32 → a < nwB tx le a) ∧ (∀ i, nwB tx le a ≤ i → i < nwE tx le a → tx i ≠ 32) := by
  obtain ⟨h1, h2, h3⟩ := sp_b (tx := tx) (le - a) a
  have e1 : nwB tx le a = spF tx (le - a) a := rfl
  rw [← e1] at h1 h2 h3
  obtain ⟨g1, g2, g3, g4⟩ := wd_b (tx := tx) (le - nwB tx le a) (nwB tx le a)
  have e2 : nwE tx le a = wdF tx (le - nwB tx le a) (nwB tx le a) := rfl
  rw [← e2] at g1 g2 g3 g4
  refine ⟨h1, by omega, g1, by omega, fun hk => ?_, fun hl => g3 (by omega), fun hk ha => ?_, g4⟩
  · have hk' := of_decide_eq_true hk
    by_cases c : nwB tx le a < nwE tx le a
    · exact c
    · have ee : nwE tx le a = nwB tx le a := by omega
      have := g3 (by omega)
      rw [ee] at this
      exact absurd this (h3 (by omega))
  · have hk' := of_decide_eq_true hk
    by_cases c : a < nwB tx le a
    · exact c
    · have ee : nwB tx le a = a := by omega
      have := h3 (by omega)
      rw [ee] at this
      exact absurd ha this
def TxC (A : mwM) (n : Nat) (tx : Nat → Nat) : Prop := A 1 4 = sI n ∧ n ≤ 6000 ∧ ∀ j, j < n → A 2 j = sI (tx j) ∧ 0 < tx j ∧ tx j < 256
def TxM (M : mwM) (n : Nat) (tx : Nat → Nat) : Prop := M 732 2 = sI n ∧ n ≤ 6000 ∧ ∀ j, j < n → M 733 j = sI (tx j) ∧ 0 < tx j ∧ tx j < 256
theorem sI_32 {x : Nat} (h : x < 256) : (sI x = 32) ↔ x = 32 := by rw [show (32 : Int32) = sI 32 from rfl, sI_eq (by omega) (by omega)]
theorem sI_35 {x : Nat} (h : x < 256) : (sI x = 35) ↔ x = 35 := by rw [show (35 : Int32) = sI 35 from rfl, sI_eq (by omega) (by omega)]
theorem c_sp {fu n le : Nat} {A : mwM} {L : mwL} {tx : Nat → Nat} (hT : TxC A n tx) (h6 : A 1 6 = sI le) (hle : le ≤ n) : ∀ (r q a : Nat) (B : mwM), a + r = le → r < q → B 1 5 = sI a → (∀ x y, ¬ (x = 1 ∧ y = 5) → B x y = A x y) → fX8_nextWord_h0 fu q (B, L) = fX8_nextWord_b38 fu (mset B 1 5 (sI (spF tx r a))) L := by
  intro r
  have hn := hT.2.1
  induction r with
  | zero =>
    intro q a B ha hq h5 hB
    obtain ⟨q, rfl⟩ : ∃ y, q = y + 1 := ⟨q - 1, by omega⟩
    show fX8_nextWord_i0 fu (fX8_nextWord_h0 fu q) B L = _
    unfold fX8_nextWord_i0
    rw [h5, hB 1 6 (by omega), h6, if_pos (show sI le ≤ sI a by rw [sI_le (by omega) (by omega)]; omega)]
    unfold spF
    rw [mset_id h5]
  | succ r ih =>
    intro q a B ha hq h5 hB
    obtain ⟨q, rfl⟩ : ∃ y, q = y + 1 := ⟨q - 1, by omega⟩
    obtain ⟨t1, t2, t3⟩ := hT.2.2 a (by omega)
    show fX8_nextWord_i0 fu (fX8_nextWord_h0 fu q) B L = _
    unfold fX8_nextWord_i0
    rw [h5, hB 1 6 (by omega), h6, if_neg (show ¬ sI le ≤ sI a by rw [sI_le (by omega) (by omega)]; omega), mck_s (by omega) (by omega), sI_nn (by omega), hB 2 a (by omega), t1]
    unfold spF
    by_cases c : tx a = 32
    · rw [if_pos c, if_pos (show sI (tx a) = 32 by rw [c]; rfl), mlet_e, sI_1, ih q (a + 1) (mset B 1 5 (sI (a + 1))) (by omega) (by omega) mset_s (fun x y u => by rw [mset_n u]; exact hB x y u), mset_ii]
    · rw [if_neg c, if_neg (show ¬ sI (tx a) = 32 by rw [sI_32 t3]; exact c), mset_id h5]
theorem c_wd {fu n le : Nat} {A : mwM} {L : mwL} {tx : Nat → Nat} (hT : TxC A n tx) (h6 : A 1 6 = sI le) (hle : le ≤ n) : ∀ (r q a : Nat) (B : mwM), a + r = le → r < q → B 1 5 = sI a → (∀ x y, ¬ (x = 1 ∧ (y = 5 ∨ y = 8)) → B x y = A x y) → fX8_nextWord_h85 fu q (B, L) = fX8_nextWord_b123 fu (mset B 1 5 (sI (wdF tx r a))) L := by
  intro r
  have hn := hT.2.1
  induction r with
  | zero =>
    intro q a B ha hq h5 hB
    obtain ⟨q, rfl⟩ : ∃ y, q = y + 1 := ⟨q - 1, by omega⟩
    show fX8_nextWord_i85 fu (fX8_nextWord_h85 fu q) B L = _
    unfold fX8_nextWord_i85
    rw [h5, hB 1 6 (by omega), h6, if_pos (show sI le ≤ sI a by rw [sI_le (by omega) (by omega)]; omega)]
    unfold wdF
    rw [mset_id h5]
  | succ r ih =>
    intro q a B ha hq h5 hB
    obtain ⟨q, rfl⟩ : ∃ y, q = y + 1 := ⟨q - 1, by omega⟩
    obtain ⟨t1, t2, t3⟩ := hT.2.2 a (by omega)
    show fX8_nextWord_i85 fu (fX8_nextWord_h85 fu q) B L = _
    unfold fX8_nextWord_i85
    rw [h5, hB 1 6 (by omega), h6, if_neg (show ¬ sI le ≤ sI a by rw [sI_le (by omega) (by omega)]; omega), mck_s (by omega) (by omega), sI_nn (by omega), hB 2 a (by omega), t1]
    unfold wdF
    by_cases c : tx a = 32
    · rw [if_pos c, if_pos (show sI (tx a) = 32 by rw [c]; rfl), mset_id h5]
    · rw [if_neg c, if_neg (show ¬ sI (tx a) = 32 by rw [sI_32 t3]; exact c), mlet_e, sI_1, ih q (a + 1) (mset B 1 5 (sI (a + 1))) (by omega) (by omega) mset_s (fun x y u => by rw [mset_n (by omega)]; exact hB x y u), mset_ii]
theorem c_next {fu n le a : Nat} {A : mwM} {L : mwL} {tx : Nat → Nat} (hfu : 6100 ≤ fu) (hT : TxC A n tx) (h5 : A 1 5 = sI a) (h6 : A 1 6 = sI le) (ha : a ≤ le) (hle : le ≤ n) : ∃ A', DX8_nextWord fu A L = some (A', L) ∧ (nwK tx le a = true → A' 1 5 = sI (nwE tx le a) ∧ A' 1 8 = sI (nwB tx le a) ∧ A' 1 9 = sI (nwE tx le a - nwB tx le a)) ∧ (nwK tx le a = false → A' 1 5 = sI (nwB tx le a) ∧ A' 1 8 = sI le ∧ A' 1 9 = sI 0) ∧ ∀ x y, ¬ (x = 1 ∧ (y = 5 ∨ y = 8 ∨ y = 9)) → A' x y = A x y := by
  have hn := hT.2.1
  obtain ⟨b1, b2, b3, b4, b5, b6, b7, _⟩ := nw_b (tx := tx) ha
  have e0 := c_sp (fu := fu) (L := L) hT h6 hle (le - a) fu a A (by omega) (by omega) h5 (fun _ _ _ => rfl)
  have eb : spF tx (le - a) a = nwB tx le a := rfl
  rw [eb] at e0
  unfold DX8_nextWord
  rw [e0]
  unfold fX8_nextWord_b38 fX8_nextWord_b63
  rw [mset_s, mset_n (show ¬ (1 = 1 ∧ 6 = 5) by omega), h6]
  by_cases c1 : le ≤ nwB tx le a
  · have hk : nwK tx le a = false := decide_eq_false (by omega)
    rw [if_pos (show sI le ≤ sI (nwB tx le a) by rw [sI_le (by omega) (by omega)]; omega), mlet_e, mlet_e]
    refine ⟨_, rfl, fun h => absurd h (by rw [hk]; decide), fun _ => ⟨?_, ?_, ?_⟩, fun x y u => ?_⟩
    · rw [mset_n (by omega), mset_n (by omega), mset_s]
    · rw [mset_n (by omega), mset_s]
    · rw [mset_s]; rfl
    · rw [mset_n (by omega), mset_n (by omega), mset_n (by omega)]
  · obtain ⟨t1, t2, t3⟩ := hT.2.2 (nwB tx le a) (by omega)
    rw [if_neg (show ¬ sI le ≤ sI (nwB tx le a) by rw [sI_le (by omega) (by omega)]; omega), mck_s (by omega) (by omega), sI_nn (by omega), mset_n (show ¬ (2 = 1 ∧ nwB tx le a = 5) by omega), t1]
    by_cases c2 : tx (nwB tx le a) = 35
    · have hk : nwK tx le a = false := decide_eq_false (by omega)
      rw [if_pos (show sI (tx (nwB tx le a)) = 35 by rw [c2]; rfl), mlet_e, mlet_e]
      refine ⟨_, rfl, fun h => absurd h (by rw [hk]; decide), fun _ => ⟨?_, ?_, ?_⟩, fun x y u => ?_⟩
      · rw [mset_n (by omega), mset_n (by omega), mset_s]
      · rw [mset_n (by omega), mset_s]
      · rw [mset_s]; rfl
      · rw [mset_n (by omega), mset_n (by omega), mset_n (by omega)]
    · have hk : nwK tx le a = true := decide_eq_true ⟨by omega, c2⟩
      rw [if_neg (show ¬ sI (tx (nwB tx le a)) = 35 by rw [sI_35 t3]; exact c2), mlet_e, c_wd (fu := fu) (L := L) hT h6 hle (le - nwB tx le a) fu (nwB tx le a) _ (by omega) (by omega) (by rw [mset_n (by omega), mset_s]) (fun x y u => by rw [mset_n (by omega), mset_n (by omega)])]
      have ee : wdF tx (le - nwB tx le a) (nwB tx le a) = nwE tx le a := rfl
      rw [ee]
      unfold fX8_nextWord_b123
      rw [mlet_e, mset_s, mset_n (show ¬ (1 = 1 ∧ 8 = 5) by omega), mset_s, sI_sub (by omega)]
      refine ⟨_, rfl, fun _ => ⟨?_, ?_, ?_⟩, fun h => absurd h (by rw [hk]; decide), fun x y u => ?_⟩
      · rw [mset_n (by omega), mset_s]
      · rw [mset_n (by omega), mset_n (by omega), mset_s]
      · rw [mset_s]
      · rw [mset_n (by omega), mset_n (by omega), mset_n (by omega), mset_n (by omega)]
