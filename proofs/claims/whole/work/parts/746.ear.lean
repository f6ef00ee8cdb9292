/-! the ear: bounds, octets, the long checks -/
theorem crcF15_lt {s : Nat → Nat} : ∀ n, crcF (2 ^ 14) 17817 0 s n < 32768 := by
  intro n
  cases n with
  | zero => show 0 < 32768; decide
  | succ n => exact c15_lt _ _
theorem PI_b {p h : Nat → Nat} (hI : PI p h) : h 11 < 2 ∧ h 12 < 2 ∧ h 13 < 2 ∧ h 15 < 200000 ∧ h 17 < 200000 ∧ h 16 ≤ 64 ∧ h 7 < 32768 ∧ h 14 < 16 ∧ (h 5 = h 15 + 3 → h 14 < 8) ∧ (h 5 < h 17 → h 15 + 4 ≤ h 5 → (h 5 - h 15 - 4) / 8 < 64) ∧ (h 17 < 100000 → h 17 ≤ 553 ∧ h 15 + 4 ≤ h 5 ∧ h 15 ≤ 37 ∧ h 17 = h 15 + 4 + 8 * h 16) ∧ (h 17 ≥ 100000 → h 5 < 41) ∧ (h 13 = 1 → h 15 < 100000) ∧ (h 15 < 100000 → 15 ≤ h 15 ∧ h 15 ≤ 37) := by
  obtain ⟨i1, i2, i3, i4, i5, i6, i7, i8, i9, i10, i11, i12⟩ := PI_x.mp hI
  have e12 : h 12 < 2 := by
    rw [i3]
    split
    · exact i1 13 (by omega)
    · omega
  have ab : 14 ≤ atE (h 12) ∧ atE (h 12) ≤ 33 := by unfold atE; split <;> omega
  have e13 : h 13 < 2 := by
    rw [i4]
    split
    · exact i1 _ (by omega)
    · omega
  have cb := caE_b e12 e13
  have e16 : h 16 ≤ 64 := by
    rw [i8]
    split
    · exact ocE_le _ _ _
    · omega
  have e11 : h 11 < 2 := by
    rw [i7]
    split
    · exact i1 _ (by omega)
    · split
      · exact i1 _ (by omega)
      · omega
  have nl : ∀ a n, a + n ≤ h 5 → num p a n < 2 ^ n := fun a n z => num_lt n (fun i u1 u2 => i1 i (by omega))
  have c37 : caE (h 12) (h 13) ≤ 37 := by omega
  have e14 : h 14 < 16 ∧ (h 5 = h 15 + 3 → h 14 < 8) := by
    by_cases z : atE (h 12) < h 5
    · rw [if_pos z] at i6 i5
      constructor
      · by_cases y : caE (h 12) (h 13) ≤ h 5
        · have := nl (caE (h 12) (h 13)) (min (h 5) (caE (h 12) (h 13) + 4) - caE (h 12) (h 13)) (by omega)
          rw [← i6] at this
          have le : 2 ^ (min (h 5) (caE (h 12) (h 13) + 4) - caE (h 12) (h 13)) ≤ 2 ^ 4 := Nat.pow_le_pow_right (by omega) (by omega)
          omega
        · rw [show min (h 5) (caE (h 12) (h 13) + 4) - caE (h 12) (h 13) = 0 by omega] at i6
          have : h 14 = 0 := i6
          omega
      · intro y
        rw [i5] at y
        rw [show min (h 5) (caE (h 12) (h 13) + 4) - caE (h 12) (h 13) = 3 by omega] at i6
        have := nl (caE (h 12) (h 13)) 3 (by omega)
        rw [← i6] at this
        omega
    · rw [if_neg z] at i6
      exact ⟨by omega, fun _ => by omega⟩
  refine ⟨e11, e12, e13, ?_, ?_, e16, by rw [i12]; exact crcF15_lt _, e14.1, e14.2, ?_, ?_, ?_, ?_, ?_⟩
  · rw [i5]
    split <;> omega
  · rw [i9]
    split <;> omega
  · intro z y
    by_cases x : atE (h 12) < h 5 ∧ caE (h 12) (h 13) + 4 ≤ h 5
    · rw [if_pos x] at i9
      rw [if_pos x.1] at i5
      omega
    · rw [if_neg x] at i9
      by_cases w : atE (h 12) < h 5
      · rw [if_pos w] at i5
        exact absurd ⟨w, by omega⟩ x
      · rw [if_neg w] at i5
        omega
  · intro z
    by_cases x : atE (h 12) < h 5 ∧ caE (h 12) (h 13) + 4 ≤ h 5
    · rw [if_pos x] at i9
      rw [if_pos x.1] at i5
      omega
    · rw [if_neg x] at i9
      omega
  · intro z
    by_cases x : atE (h 12) < h 5 ∧ caE (h 12) (h 13) + 4 ≤ h 5
    · rw [if_pos x] at i9
      omega
    · omega
  · intro z
    by_cases x : atE (h 12) < h 5
    · rw [if_pos x] at i5
      omega
    · rw [if_neg x] at i4
      omega
  · intro z
    by_cases x : atE (h 12) < h 5
    · rw [if_pos x] at i5
      omega
    · rw [if_neg x] at i5
      omega
def OI (p : Nat → Nat) (P ca oc : Nat) (o : Nat → Nat) : Prop := ∀ i, i < oc → ca + 4 + 8 * i < P → o i % 2 ^ (min 8 (P - (ca + 4 + 8 * i))) = num p (ca + 4 + 8 * i) (min 8 (P - (ca + 4 + 8 * i)))
theorem hPlain_15 {n b : Nat} {h : Nat → Nat} : hPlain n b h 15 = h 15 ∨ n + 1 ≤ hPlain n b h 15 := by
  unfold hPlain
  split
  · split
    · split
      · exact Or.inl rfl
      · split
        · exact Or.inl rfl
        · exact Or.inl rfl
    · unfold hHead
      split
      · exact Or.inl rfl
      · split
        · exact Or.inl rfl
        · split
          · exact Or.inl rfl
          · split
            · right
              rw [nst_s]
              omega
            · exact Or.inl rfl
  · exact Or.inl rfl
theorem md256 (x j : Nat) (hj : j ≤ 7) : (x % 256) % 2 ^ (j + 1) = x % 2 ^ (j + 1) := by
  apply Nat.mod_mod_of_dvd
  exact Nat.pow_dvd_pow 2 (show j + 1 ≤ 8 by omega)
theorem md2 (o b j : Nat) (hb : b < 2) : (2 * o + b) % 2 ^ (j + 1) = 2 * (o % 2 ^ j) + b := by
  rw [Nat.pow_succ, Nat.mul_comm (2 ^ j) 2]
  have hp : 0 < 2 ^ j := Nat.two_pow_pos j
  have h1 := Nat.div_add_mod o (2 ^ j)
  have h2 : o % 2 ^ j < 2 ^ j := Nat.mod_lt _ hp
  have h3 : 2 * o + b = 2 * (o % 2 ^ j) + b + 2 * 2 ^ j * (o / 2 ^ j) := by
    have : 2 * 2 ^ j * (o / 2 ^ j) = 2 * (2 ^ j * (o / 2 ^ j)) := Nat.mul_assoc _ _ _
    omega
  rw [h3, Nat.add_mul_mod_self_left, Nat.mod_eq_of_lt (by omega)]
theorem OI_s {p h o : Nat → Nat} {b : Nat} (hI : PI p h) (hb : b < 2) (hO : OI p (h 5) (h 15) (h 16) o) : OI (nst p (h 5) b) (h 5 + 1) (hPl0 b h 15) (hPl0 b h 16) (oPlain (h 5) b h o) := by
  obtain ⟨_, _, _, _, _, e16, _, _, _, b1, b2, b3, _, _⟩ := PI_b hI
  have hq : (nst p (h 5) b) (h 5) = b := nst_s
  have hqi : ∀ i, i < h 5 → (nst p (h 5) b) i = p i := fun i u => nst_n (by omega)
  generalize nst p (h 5) b = q at *
  by_cases c1 : h 15 + 4 ≤ h 5
  · have g : hPl0 b h 15 = h 15 ∧ hPl0 b h 16 = h 16 := by
      by_cases c2 : h 5 < h 17
      · have e : hPl0 b h = hC b (nst (nst (nst h 3 (if b = h 2 then h 3 + 1 else 1)) 2 b) 5 (h 5 + 1)) := hPlain_2 (show h 5 < h 17 from c2) (show h 15 + 4 ≤ h 5 from c1)
        rw [e]
        exact ⟨rfl, rfl⟩
      · have e : hPl0 b h = nst (nst (nst (nst h 3 (if b = h 2 then h 3 + 1 else 1)) 2 b) 5 (h 5 + 1)) 18 (2 * h 18 + b) := hPlain_5 (show h 17 ≤ h 5 by omega)
        rw [e]
        exact ⟨rfl, rfl⟩
    rw [g.1, g.2]
    unfold oPlain
    by_cases c2 : h 5 < h 17
    · rw [if_pos ⟨c2, c1⟩]
      intro i u1 u2
      by_cases z : i = (h 5 - h 15 - 4) / 8
      · rw [← z, nst_s, show min 8 (h 5 + 1 - (h 15 + 4 + 8 * i)) = (h 5 - (h 15 + 4 + 8 * i)) + 1 by omega, md256 _ _ (by omega), md2 _ _ _ hb]
        show _ = 2 * num q (h 15 + 4 + 8 * i) (h 5 - (h 15 + 4 + 8 * i)) + q (h 15 + 4 + 8 * i + (h 5 - (h 15 + 4 + 8 * i)))
        rw [show h 15 + 4 + 8 * i + (h 5 - (h 15 + 4 + 8 * i)) = h 5 by omega, hq, num_c (q := q) (p := p) _ (fun j w1 w2 => hqi j (by omega))]
        by_cases y : h 15 + 4 + 8 * i < h 5
        · have := hO i u1 y
          rw [show min 8 (h 5 - (h 15 + 4 + 8 * i)) = h 5 - (h 15 + 4 + 8 * i) by omega] at this
          rw [this]
        · rw [show h 5 - (h 15 + 4 + 8 * i) = 0 by omega]
          show 2 * (o i % 1) + b = 2 * 0 + b
          rw [Nat.mod_one]
      · rw [nst_n z]
        have := hO i u1 (by omega)
        rw [show min 8 (h 5 - (h 15 + 4 + 8 * i)) = 8 by omega] at this
        rw [show min 8 (h 5 + 1 - (h 15 + 4 + 8 * i)) = 8 by omega, this]
        exact (num_c _ (fun j w1 w2 => hqi j (by omega))).symm
    · rw [if_neg (fun z => c2 z.1)]
      have f := b2
      intro i u1 u2
      have f2 : h 17 = h 15 + 4 + 8 * h 16 := by
        by_cases y : h 17 < 100000
        · exact (b2 y).2.2.2
        · have := b3 (by omega)
          omega
      have := hO i u1 (by omega)
      rw [show min 8 (h 5 - (h 15 + 4 + 8 * i)) = 8 by omega] at this
      rw [show min 8 (h 5 + 1 - (h 15 + 4 + 8 * i)) = 8 by omega, this]
      exact (num_c _ (fun j w1 w2 => hqi j (by omega))).symm
  · intro i u1 u2
    exfalso
    have z : hPl0 b h 15 = h 15 ∨ h 5 + 1 ≤ hPl0 b h 15 := hPlain_15
    omega
