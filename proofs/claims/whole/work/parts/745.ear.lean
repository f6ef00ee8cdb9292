/-! the ear: its numbers behind a plain bit -/
theorem hPlain_1 {n b : Nat} {h : Nat → Nat} (h1 : n < h 17) (h2 : n < h 15) : hPlain n b h = hHead n b (hC b h) := by
  unfold hPlain
  rw [if_pos h1, if_neg (by omega)]
theorem hPlain_2 {n b : Nat} {h : Nat → Nat} (h1 : n < h 17) (h2 : h 15 + 4 ≤ n) : hPlain n b h = hC b h := by
  unfold hPlain
  rw [if_pos h1, if_pos (by omega), if_pos h2]
theorem hPlain_3 {n b : Nat} {h : Nat → Nat} (h1 : n < h 17) (h2 : n = h 15 + 3) : hPlain n b h = hEnds (nst (hC b h) 14 (2 * h 14 + b)) := by
  unfold hPlain
  rw [if_pos h1, if_pos (by omega), if_neg (by omega), if_pos h2]
theorem hPlain_4 {n b : Nat} {h : Nat → Nat} (h1 : n < h 17) (h2 : h 15 ≤ n) (h3 : n < h 15 + 3) : hPlain n b h = nst (hC b h) 14 (2 * h 14 + b) := by
  unfold hPlain
  rw [if_pos h1, if_pos (by omega), if_neg (by omega), if_neg (by omega)]
theorem hPlain_5 {n b : Nat} {h : Nat → Nat} (h1 : h 17 ≤ n) : hPlain n b h = nst h 18 (2 * h 18 + b) := by
  unfold hPlain
  rw [if_neg (by omega)]
theorem PI_s {p h : Nat → Nat} {b : Nat} (hI : PI p h) (hb : b < 2) : PI (nst p (h 5) b) (hPl0 b h) := by
  have hq : (nst p (h 5) b) (h 5) = b := nst_s
  have hI' := PI_c (q := nst p (h 5) b) (fun i u => nst_n (by omega)) hI
  generalize nst p (h 5) b = q at *
  have hx := PI_x.mp hI'
  obtain ⟨i1, i2, i3, i4, i5, i6, i7, i8, i9, _⟩ := hx
  have hx := PI_x.mp hI'
  have he : h 12 < 2 := by
    rw [i3]
    split
    · exact i1 13 (by omega)
    · omega
  by_cases c1 : h 5 ≤ 13
  · have e12 : h 12 = 0 := by rw [i3]; exact if_neg (by omega)
    obtain ⟨_, k2, _, _, k5, _, _, _⟩ := PIx_h hx (by omega) e12
    have t := PIx_A hx hb hq c1
    have e : hPl0 b h = hHead (h 5) b (hC b (nst (nst (nst h 3 (if b = h 2 then h 3 + 1 else 1)) 2 b) 5 (h 5 + 1))) := hPlain_1 (show h 5 < h 17 by omega) (show h 5 < h 15 by omega)
    unfold hHead at e
    by_cases c2 : h 5 ≤ 11
    · rw [if_pos (Or.inl ⟨by omega, c2⟩)] at e
      rw [if_neg (show ¬ h 5 = 13 by omega), if_neg (show ¬ h 5 = 12 by omega), if_pos c2] at t
      rw [e]
      exact t
    · have n1 : ¬ ((1 ≤ h 5 ∧ h 5 ≤ 11) ∨ ((hC b (nst (nst (nst h 3 (if b = h 2 then h 3 + 1 else 1)) 2 b) 5 (h 5 + 1))) 12 = 1 ∧ 14 ≤ h 5 ∧ h 5 ≤ 31)) := by omega
      rw [if_neg n1] at e
      by_cases c3 : h 5 = 12
      · rw [if_pos (Or.inl c3)] at e
        rw [if_neg (show ¬ h 5 = 13 by omega), if_pos c3, if_neg c2] at t
        rw [e]
        exact t
      · have c4 : h 5 = 13 := by omega
        rw [if_neg (show ¬ (h 5 = 12 ∨ h 5 = 32) by omega), if_pos c4] at e
        rw [if_pos c4, if_neg c3, if_neg c2] at t
        rw [e]
        exact t
  · by_cases c2 : h 5 < atE (h 12)
    · have e12 : h 12 = 1 := by
        unfold atE at c2
        split at c2
        · assumption
        · omega
      have a33 : atE (h 12) = 33 := by rw [e12]; rfl
      obtain ⟨_, k2, _, _, k5, _, _, _⟩ := PIx_l hx (by omega) (by omega) e12
      have t := PIx_E hx hb hq (by omega) (by omega) e12
      have e : hPl0 b h = hHead (h 5) b (hC b (nst (nst (nst h 3 (if b = h 2 then h 3 + 1 else 1)) 2 b) 5 (h 5 + 1))) := hPlain_1 (show h 5 < h 17 by omega) (show h 5 < h 15 by omega)
      unfold hHead at e
      by_cases c3 : h 5 ≤ 31
      · rw [if_pos (Or.inr ⟨show h 12 = 1 from e12, by omega, c3⟩)] at e
        rw [if_neg (show ¬ h 5 = 32 by omega), if_pos c3] at t
        rw [e]
        exact t
      · have c4 : h 5 = 32 := by omega
        rw [if_neg (show ¬ ((1 ≤ h 5 ∧ h 5 ≤ 11) ∨ ((hC b (nst (nst (nst h 3 (if b = h 2 then h 3 + 1 else 1)) 2 b) 5 (h 5 + 1))) 12 = 1 ∧ 14 ≤ h 5 ∧ h 5 ≤ 31)) by omega), if_pos (Or.inr c4)] at e
        rw [if_pos c4, if_neg c3] at t
        rw [e]
        exact t
    · by_cases c3 : h 5 = atE (h 12)
      · have t := PIx_D hx hb hq c3 he
        have hP : (h 5 = 14 ∧ ¬ h 12 = 1) ∨ h 5 = 33 := by
          unfold atE at c3
          split at c3
          · exact Or.inr c3
          · exact Or.inl ⟨c3, by assumption⟩
        have k : h 15 = 100000 ∧ h 17 = 100000 := by
          rw [i5, i9]
          have n1 : ¬ atE (h 12) < h 5 := by omega
          rw [if_neg n1, if_neg (fun z => n1 z.1)]
          exact ⟨rfl, rfl⟩
        have e : hPl0 b h = hHead (h 5) b (hC b (nst (nst (nst h 3 (if b = h 2 then h 3 + 1 else 1)) 2 b) 5 (h 5 + 1))) := hPlain_1 (show h 5 < h 17 by omega) (show h 5 < h 15 by omega)
        unfold hHead at e
        have n2 : ¬ ((1 ≤ h 5 ∧ h 5 ≤ 11) ∨ ((hC b (nst (nst (nst h 3 (if b = h 2 then h 3 + 1 else 1)) 2 b) 5 (h 5 + 1))) 12 = 1 ∧ 14 ≤ h 5 ∧ h 5 ≤ 31)) := fun z => by
          rcases z with z | z
          · omega
          · have z1 : h 12 = 1 := z.1
            omega
        rw [if_neg n2, if_neg (show ¬ (h 5 = 12 ∨ h 5 = 32) by omega), if_neg (show ¬ h 5 = 13 by omega), if_pos (show h 5 = 14 ∨ h 5 = 33 by omega)] at e
        have ec : h 5 + 1 + 3 * b + (if h 12 = 1 ∧ b = 0 then 1 else 0) = caE (h 12) b := by
          unfold caE
          rw [c3]
        rw [← ec] at t
        rw [e]
        exact t
      · have c4 : atE (h 12) < h 5 := by omega
        have t := PIx_H hx hb hq c4 he
        have f2 : h 13 < 2 := by
          rw [i4]
          split
          · exact i1 _ (by omega)
          · omega
        have cb := caE_b he f2
        have hp15 : h 5 > 14 ∧ (h 12 = 1 → h 5 > 33) := by
          unfold atE at c4
          split at c4 <;> omega
        have e15 : h 15 = caE (h 12) (h 13) := by rw [i5, if_pos c4]
        have ha33 : atE (h 12) ≤ 33 := by unfold atE; split <;> omega
        have o1 : h 15 + 4 ≤ h 5 → h 17 = h 15 + 4 + 8 * h 16 := fun z => by
          rw [i9, if_pos ⟨show atH h < h 5 from c4, show caE (h 12) (h 13) + 4 ≤ h 5 by omega⟩, e15]
        have o2 : ¬ h 15 + 4 ≤ h 5 → h 17 = 100000 := fun z => by
          rw [i9, if_neg (fun y => z (by rw [e15]; exact y.2))]
        by_cases c5 : h 5 < h 15
        · have k17 := o2 (by omega)
          have e : hPl0 b h = hHead (h 5) b (hC b (nst (nst (nst h 3 (if b = h 2 then h 3 + 1 else 1)) 2 b) 5 (h 5 + 1))) := hPlain_1 (show h 5 < h 17 by omega) (show h 5 < h 15 by omega)
          unfold hHead at e
          have n2 : ¬ ((1 ≤ h 5 ∧ h 5 ≤ 11) ∨ ((hC b (nst (nst (nst h 3 (if b = h 2 then h 3 + 1 else 1)) 2 b) 5 (h 5 + 1))) 12 = 1 ∧ 14 ≤ h 5 ∧ h 5 ≤ 31)) := fun z => by
            rcases z with z | z
            · omega
            · have z1 : h 12 = 1 := z.1
              omega
          have n3 : ¬ h 5 = 32 ∧ ¬ h 5 = 33 := by
            by_cases z : h 12 = 1
            · omega
            · have : atE (h 12) = 14 := by unfold atE; rw [if_neg z]
              omega
          rw [if_neg n2, if_neg (show ¬ (h 5 = 12 ∨ h 5 = 32) by omega), if_neg (show ¬ h 5 = 13 by omega), if_neg (show ¬ (h 5 = 14 ∨ h 5 = 33) by omega)] at e
          rw [if_neg (show ¬ (h 15 ≤ h 5 ∧ h 5 ≤ h 15 + 3) by omega), if_neg (show ¬ h 5 = h 15 + 3 by omega), if_neg (show ¬ h 5 = h 15 + 3 by omega), if_neg (show ¬ h 17 ≤ h 5 by omega), if_neg (show ¬ h 17 ≤ h 5 by omega)] at t
          rw [e]
          exact t
        · by_cases c6 : h 5 < h 17
          · rw [if_neg (show ¬ h 17 ≤ h 5 by omega), if_neg (show ¬ h 17 ≤ h 5 by omega)] at t
            by_cases c7 : h 15 + 4 ≤ h 5
            · have e : hPl0 b h = hC b (nst (nst (nst h 3 (if b = h 2 then h 3 + 1 else 1)) 2 b) 5 (h 5 + 1)) := hPlain_2 (show h 5 < h 17 from c6) (show h 15 + 4 ≤ h 5 from c7)
              rw [if_neg (show ¬ (h 15 ≤ h 5 ∧ h 5 ≤ h 15 + 3) by omega), if_neg (show ¬ h 5 = h 15 + 3 by omega), if_neg (show ¬ h 5 = h 15 + 3 by omega)] at t
              rw [e]
              exact t
            · rw [if_pos (show h 15 ≤ h 5 ∧ h 5 ≤ h 15 + 3 by omega)] at t
              by_cases c8 : h 5 = h 15 + 3
              · have e : hPl0 b h = hEnds (nst (hC b (nst (nst (nst h 3 (if b = h 2 then h 3 + 1 else 1)) 2 b) 5 (h 5 + 1))) 14 (2 * h 14 + b)) := hPlain_3 (show h 5 < h 17 from c6) (show h 5 = h 15 + 3 from c8)
                rw [if_pos c8, if_pos c8] at t
                rw [e]
                exact t
              · have e : hPl0 b h = nst (hC b (nst (nst (nst h 3 (if b = h 2 then h 3 + 1 else 1)) 2 b) 5 (h 5 + 1))) 14 (2 * h 14 + b) := hPlain_4 (show h 5 < h 17 from c6) (show h 15 ≤ h 5 by omega) (show h 5 < h 15 + 3 by omega)
                rw [if_neg c8, if_neg c8] at t
                rw [e]
                exact t
          · have c7 : h 15 + 4 ≤ h 5 := by
              by_cases z : h 15 + 4 ≤ h 5
              · exact z
              · have := o2 z
                omega
            have e : hPl0 b h = nst (nst (nst (nst h 3 (if b = h 2 then h 3 + 1 else 1)) 2 b) 5 (h 5 + 1)) 18 (2 * h 18 + b) := hPlain_5 (show h 17 ≤ h 5 by omega)
            rw [if_neg (show ¬ (h 15 ≤ h 5 ∧ h 5 ≤ h 15 + 3) by omega), if_neg (show ¬ h 5 = h 15 + 3 by omega), if_neg (show ¬ h 5 = h 15 + 3 by omega), if_pos (show h 17 ≤ h 5 by omega), if_pos (show h 17 ≤ h 5 by omega)] at t
            rw [e]
            exact t
