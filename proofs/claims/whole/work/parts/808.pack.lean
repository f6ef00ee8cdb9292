/-! the reference: how large a group of one signal is -/
abbrev PsG (M : mwM) (k n : Nat) (bt : Nat → Nat) (tu : Nat → Bool) : Prop := M k 2 = sI n ∧ n ≤ 40 ∧ ∀ l, 1 ≤ l → l ≤ n → M (k + 5) l = sI l ∧ M (k + 4) l = -1 ∧ M (k + 1) l = sI (bt l) ∧ 1 ≤ bt l ∧ bt l ≤ 64 ∧ M (k + 3) l = bI (tu l)
theorem m_octP {fu k n l : Nat} {bt : Nat → Nat} {tu : Nat → Bool} {M : mwM} {L : mwL} (h : PsG M k n bt tu) (h1 : 1 ≤ l) (h2 : l ≤ n) : DX16_octetsOf fu k (sI l) M L = some (sI ((bt l + 7) / 8), M, L) := by
  obtain ⟨g1, g2, g3⟩ := h
  obtain ⟨a1, a2, a3, a4, a5, a6⟩ := g3 l h1 h2
  unfold DX16_octetsOf
  rw [mck_s (by omega) (by omega), sI_nn (by omega), a3, sI_adl]
  have e : sI (bt l + 7) / 8 = sI ((bt l + 7) / 8) := sI_div (b := 8) (by omega) (by omega)
  rw [e]
theorem m_part {fu k n l x : Nat} {bt : Nat → Nat} {tu : Nat → Bool} {M : mwM} {L : mwL} (hfu : 50 ≤ fu) (h : PsG M k n bt tu) (h1 : 1 ≤ l) (h2 : l ≤ n) (hx : x = 0 ∨ x = l) : DX16_part fu k (sI l) (-1) 0 (sI x) M L = some (sI (if x = l then 0 else (bt l + 7) / 8), M, L) := by
  have h' := h
  obtain ⟨g1, g2, g3⟩ := h
  obtain ⟨l1, l2, l3, l4, l5, l6⟩ := g3 l h1 h2
  -- the second way round
  have key2 : ∀ (E : Nat), E ≤ 8 → (tu l = true → E = 0) → (tu l = false → E = (bt l + 7) / 8 ∧ x = 0) → ∀ (r s q : Nat), s + r = n + 1 → r < q → 1 ≤ s → (x = l → s ≤ l) → fX16_part_h91 fu k (sI l) (-1) 0 (sI x) q (sI (if l < s ∧ tu l = true then (bt l + 7) / 8 else E), sI s, M, L) = some (sI (if x = l then 0 else (bt l + 7) / 8), M, L) := by
    intro E hE ht hf r
    induction r with
    | zero =>
      intro s q hs hq s1 hxs
      obtain ⟨q', rfl⟩ : ∃ y, q = y + 1 := ⟨q - 1, by omega⟩
      show fX16_part_i91 fu k (sI l) (-1) 0 (sI x) (fX16_part_h91 fu k (sI l) (-1) 0 (sI x) q') _ (sI s) M L = _
      unfold fX16_part_i91
      rw [g1, if_pos (by rw [sI_lt (by omega) (by omega)]; omega)]
      have xl : x ≠ l := fun w => by have := hxs w; omega
      rw [if_neg xl]
      cases t : tu l with
      | true => rw [if_pos ⟨by omega, rfl⟩]
      | false => rw [if_neg (fun w => by cases w.2), (hf t).1]
    | succ r ih =>
      intro s q hs hq s1 hxs
      obtain ⟨q', rfl⟩ : ∃ y, q = y + 1 := ⟨q - 1, by omega⟩
      obtain ⟨a1, a2, a3, a4, a5, a6⟩ := g3 s s1 (by omega)
      show fX16_part_i91 fu k (sI l) (-1) 0 (sI x) (fX16_part_h91 fu k (sI l) (-1) 0 (sI x) q') _ (sI s) M L = _
      have nx := ih (s + 1) q' (by omega) (by omega) (by omega)
      unfold fX16_part_i91
      rw [g1, if_neg (by rw [sI_lt (by omega) (by omega)]; omega), mck_s (by omega) (by omega), sI_nn (by omega), a1]
      by_cases e : s = l
      · subst e
        rw [if_pos rfl, mck_s (by omega) (by omega), a2, if_pos rfl, mck_s (by omega) (by omega), a6]
        rw [if_neg (show ¬ (s < s ∧ tu s = true) by omega)]
        cases t : tu s with
        | false =>
          rw [bI_f, if_pos rfl]
          unfold fX16_part_b156
          simp only [mlet]
          rw [sI_1]
          have := nx (fun w => by have := (hf t).2; omega)
          rw [if_neg (fun w => by rw [t] at w; cases w.2)] at this
          exact this
        | true =>
          rw [bI_t, if_neg (show ¬ (1 : Int32) = 0 by decide), ht t]
          by_cases xl : x = s
          · rw [if_pos (by rw [xl]), if_pos xl]
            rfl
          · rw [if_neg (by rw [sI_eq (by omega) (by omega)]; omega), m_octP h' (by omega) (by omega), mb3_s]
            unfold fX16_part_b156
            simp only [mlet]
            rw [sI_1, sI_add, Nat.zero_add]
            have := nx (fun w => absurd w xl)
            rw [if_pos ⟨by omega, t⟩] at this
            exact this
      · rw [if_neg (by rw [sI_eq (by omega) (by omega)]; exact e)]
        unfold fX16_part_b156
        simp only [mlet]
        rw [sI_1]
        by_cases c : l < s
        · have := nx (fun w => by have := hxs w; omega)
          have e2 : (l < s + 1 ∧ tu l = true) = (l < s ∧ tu l = true) := by apply propext; constructor <;> (intro w; exact ⟨by omega, w.2⟩)
          simp only [e2] at this
          exact this
        · have := nx (fun w => by omega)
          rw [if_neg (show ¬ (l < s + 1 ∧ tu l = true) by omega)] at this
          rw [if_neg (show ¬ (l < s ∧ tu l = true) by omega)]
          exact this
  have key1 : ∀ (r s q : Nat), s + r = n + 1 → r < q → 1 ≤ s → (x = l → tu l = false → s ≤ l) → fX16_part_h9 fu k (sI l) (-1) 0 (sI x) q (sI (if l < s ∧ tu l = false then bt l else 0), sI s, M, L) = some (sI (if x = l then 0 else (bt l + 7) / 8), M, L) := by
    intro r
    induction r with
    | zero =>
      intro s q hs hq s1 hxs
      obtain ⟨q', rfl⟩ : ∃ y, q = y + 1 := ⟨q - 1, by omega⟩
      show fX16_part_i9 fu k (sI l) (-1) 0 (sI x) (fX16_part_h9 fu k (sI l) (-1) 0 (sI x) q') _ (sI s) M L = _
      unfold fX16_part_i9
      rw [g1, if_pos (by rw [sI_lt (by omega) (by omega)]; omega)]
      simp only [mlet]
      have e8 : ∀ v : Nat, v ≤ 64 → (sI v + 7) / 8 = sI ((v + 7) / 8) := fun v hv => by
        rw [sI_adl]
        exact sI_div (b := 8) (by omega) (by omega)
      rw [show (1 : Int32) = sI 1 from rfl]
      cases t : tu l with
      | true =>
        rw [if_neg (fun w => by cases w.2), e8 0 (by omega)]
        have := key2 0 (by omega) (fun _ => rfl) (fun w => by rw [t] at w; cases w) n 1 fu (by omega) (by omega) (by omega) (fun _ => h1)
        rw [if_neg (show ¬ (l < 1 ∧ tu l = true) by omega)] at this
        exact this
      | false =>
        rw [if_pos ⟨by omega, rfl⟩, e8 _ l5]
        have xl : x ≠ l := fun w => by have := hxs w t; omega
        have := key2 ((bt l + 7) / 8) (by omega) (fun w => by rw [t] at w; cases w) (fun _ => ⟨rfl, by omega⟩) n 1 fu (by omega) (by omega) (by omega) (fun _ => h1)
        rw [if_neg (show ¬ (l < 1 ∧ tu l = true) by omega)] at this
        exact this
    | succ r ih =>
      intro s q hs hq s1 hxs
      obtain ⟨q', rfl⟩ : ∃ y, q = y + 1 := ⟨q - 1, by omega⟩
      obtain ⟨a1, a2, a3, a4, a5, a6⟩ := g3 s s1 (by omega)
      show fX16_part_i9 fu k (sI l) (-1) 0 (sI x) (fX16_part_h9 fu k (sI l) (-1) 0 (sI x) q') _ (sI s) M L = _
      have nx := ih (s + 1) q' (by omega) (by omega) (by omega)
      unfold fX16_part_i9
      rw [g1, if_neg (by rw [sI_lt (by omega) (by omega)]; omega), mck_s (by omega) (by omega), sI_nn (by omega), a1]
      by_cases e : s = l
      · subst e
        rw [if_pos rfl, mck_s (by omega) (by omega), a2, if_pos rfl, mck_s (by omega) (by omega), a6]
        rw [if_neg (show ¬ (s < s ∧ tu s = false) by omega)]
        cases t : tu s with
        | true =>
          rw [bI_t, if_neg (show ¬ (1 : Int32) = 0 by decide)]
          unfold fX16_part_b72
          simp only [mlet]
          rw [sI_1]
          have := nx (fun _ w => by rw [t] at w; cases w)
          rw [if_neg (fun w => by rw [t] at w; cases w.2)] at this
          exact this
        | false =>
          rw [bI_f, if_pos rfl]
          by_cases xl : x = s
          · rw [if_pos (by rw [xl]), if_pos xl]
          · rw [if_neg (by rw [sI_eq (by omega) (by omega)]; omega), mck_s (by omega) (by omega), a3]
            unfold fX16_part_b72
            simp only [mlet]
            rw [sI_1, sI_add, Nat.zero_add]
            have := nx (fun w => absurd w xl)
            rw [if_pos ⟨by omega, t⟩] at this
            exact this
      · rw [if_neg (by rw [sI_eq (by omega) (by omega)]; exact e)]
        unfold fX16_part_b72
        simp only [mlet]
        rw [sI_1]
        by_cases c : l < s
        · have := nx (fun w w2 => by have := hxs w w2; omega)
          have e2 : (l < s + 1 ∧ tu l = false) = (l < s ∧ tu l = false) := by apply propext; constructor <;> (intro w; exact ⟨by omega, w.2⟩)
          simp only [e2] at this
          exact this
        · have := nx (fun w w2 => by omega)
          rw [if_neg (show ¬ (l < s + 1 ∧ tu l = false) by omega)] at this
          rw [if_neg (show ¬ (l < s ∧ tu l = false) by omega)]
          exact this
  have st := key1 n 1 fu (by omega) (by omega) (by omega) (fun _ _ => h1)
  rw [if_neg (show ¬ (l < 1 ∧ tu l = false) by omega)] at st
  exact st
theorem m_size {fu k n l : Nat} {bt : Nat → Nat} {tu : Nat → Bool} {M : mwM} {L : mwL} (hfu : 50 ≤ fu) (h : PsG M k n bt tu) (h1 : 1 ≤ l) (h2 : l ≤ n) : DX16_size fu k (sI l) M L = some (sI ((bt l + 7) / 8), M, L) := by
  have e1 := m_part (L := L) (x := 0) hfu h h1 h2 (Or.inl rfl)
  obtain ⟨g1, g2, g3⟩ := h
  rw [if_neg (by omega)] at e1
  unfold DX16_size
  have e2 : DX16_part fu k (sI l) (-1) 0 0 M L = some (sI ((bt l + 7) / 8), M, L) := e1
  rw [e2, mb3_s]
  have key : ∀ (r s q : Nat), s + r = n + 1 → r < q → 1 ≤ s → fX16_size_h14 fu k (sI l) q (sI ((bt l + 7) / 8), sI ((bt l + 7) / 8), sI s, M, L) = some (sI ((bt l + 7) / 8), M, L) := by
    intro r
    induction r with
    | zero =>
      intro s q hs hq s1
      obtain ⟨q', rfl⟩ : ∃ y, q = y + 1 := ⟨q - 1, by omega⟩
      show fX16_size_i14 fu k (sI l) (fX16_size_h14 fu k (sI l) q') (sI ((bt l + 7) / 8)) (sI ((bt l + 7) / 8)) (sI s) M L = _
      unfold fX16_size_i14
      rw [g1, if_pos (by rw [sI_lt (by omega) (by omega)]; omega)]
    | succ r ih =>
      intro s q hs hq s1
      obtain ⟨q', rfl⟩ : ∃ y, q = y + 1 := ⟨q - 1, by omega⟩
      obtain ⟨a1, a2, a3, a4, a5, a6⟩ := g3 s s1 (by omega)
      show fX16_size_i14 fu k (sI l) (fX16_size_h14 fu k (sI l) q') (sI ((bt l + 7) / 8)) (sI ((bt l + 7) / 8)) (sI s) M L = _
      have nx := ih (s + 1) q' (by omega) (by omega) (by omega)
      unfold fX16_size_i14
      rw [g1, if_neg (by rw [sI_lt (by omega) (by omega)]; omega), mck_s (by omega) (by omega), sI_nn (by omega), a1, mck_s (by omega) (by omega), a2, if_pos (show (-1 : Int32) < 0 by decide)]
      unfold fX16_size_b73
      simp only [mlet]
      rw [sI_1]
      by_cases e : sI s = sI l
      · rw [if_pos e]; exact nx
      · rw [if_neg e]; exact nx
  exact key n 1 fu (by omega) (by omega) (by omega)
theorem m_bitIn {fu k n l : Nat} {bt : Nat → Nat} {tu : Nat → Bool} {M : mwM} {L : mwL} (hfu : 50 ≤ fu) (h : PsG M k n bt tu) (h1 : 1 ≤ l) (h2 : l ≤ n) : DX16_bitInGroup fu k (sI l) M L = some (0, M, L) := by
  have e1 := m_part (L := L) (x := l) hfu h h1 h2 (Or.inr rfl)
  obtain ⟨g1, g2, g3⟩ := h
  obtain ⟨a1, a2, a3, a4, a5, a6⟩ := g3 l h1 h2
  rw [if_pos rfl] at e1
  unfold DX16_bitInGroup fX16_bitInGroup_b47
  simp only [mlet]
  rw [mck_s (by omega) (by omega), mck_s (by omega) (by omega), sI_nn (by omega), a1, a2, if_neg (show ¬ (0 : Int32) ≤ -1 by decide), e1, mb3_s]
  rfl
