/-! frames on the wire: pure -/
def pbF (id : Nat) (oc : Nat → Nat) (i : Nat) : Nat := if i < 19 then (if 1 ≤ i ∧ i ≤ 11 then id / 2 ^ (11 - i) % 2 else if i = 15 then 1 else 0) else oc ((i - 19) / 8) / 2 ^ (7 - (i - 19) % 8) % 2
def ckF (id : Nat) (oc : Nat → Nat) : Nat := crcF (2 ^ 14) 17817 0 (pbF id oc) 83
def fbF (id : Nat) (oc : Nat → Nat) (i : Nat) : Nat := if i < 83 then pbF id oc i else ckF id oc / 2 ^ (14 - (i - 83)) % 2
theorem pbF_lt (id : Nat) (oc : Nat → Nat) (i : Nat) : pbF id oc i < 2 := by
  unfold pbF
  split
  · split
    · exact Nat.mod_lt _ (by decide)
    · split <;> omega
  · exact Nat.mod_lt _ (by decide)
theorem fbF_lt (id : Nat) (oc : Nat → Nat) (i : Nat) : fbF id oc i < 2 := by
  unfold fbF
  split
  · exact pbF_lt _ _ _
  · exact Nat.mod_lt _ (by decide)
theorem ckF_lt (id : Nat) (oc : Nat → Nat) : ckF id oc < 32768 := crcF15_lt _
/-- the number of bits on the wire, like bits at the end, the last bit -/
def lyN (f : Nat → Nat) : Nat → Nat × Nat × Nat
  | 0 => (0, 0, 1)
  | j + 1 => if (if f j = (lyN f j).2.2 then (lyN f j).2.1 + 1 else 1) = 5 then ((lyN f j).1 + 2, 1, 1 - f j) else ((lyN f j).1 + 1, (if f j = (lyN f j).2.2 then (lyN f j).2.1 + 1 else 1), f j)
def lyS (f : Nat → Nat) (j : Nat) : Nat := if f j = (lyN f j).2.2 then (lyN f j).2.1 + 1 else 1
def lyR (f : Nat → Nat) : Nat → Nat → Nat
  | 0 => z0
  | j + 1 => if lyS f j = 5 then nst (nst (lyR f j) (lyN f j).1 (f j)) ((lyN f j).1 + 1) (1 - f j) else nst (lyR f j) (lyN f j).1 (f j)
/-- stuff bits, and bits that may be lost -/
def lyF (f : Nat → Nat) : Nat → Nat → Nat
  | 0 => z0
  | j + 1 => if lyS f j = 5 then nst (nst (lyF f j) (lyN f j).1 0) ((lyN f j).1 + 1) 1 else nst (lyF f j) (lyN f j).1 0
def lyG (f : Nat → Nat) : Nat → Nat → Nat
  | 0 => z0
  | j + 1 => if lyS f j = 5 then nst (nst (lyG f j) (lyN f j).1 (if j ≤ 13 then 1 else 0)) ((lyN f j).1 + 1) 0 else nst (lyG f j) (lyN f j).1 (if j ≤ 13 then 1 else 0)
theorem lyN_5 {f : Nat → Nat} {j : Nat} (h : lyS f j = 5) : lyN f (j + 1) = ((lyN f j).1 + 2, 1, 1 - f j) := if_pos h
theorem lyN_n {f : Nat → Nat} {j : Nat} (h : ¬ lyS f j = 5) : lyN f (j + 1) = ((lyN f j).1 + 1, lyS f j, f j) := if_neg h
theorem lyR_5 {f : Nat → Nat} {j : Nat} (h : lyS f j = 5) : lyR f (j + 1) = nst (nst (lyR f j) (lyN f j).1 (f j)) ((lyN f j).1 + 1) (1 - f j) ∧ lyF f (j + 1) = nst (nst (lyF f j) (lyN f j).1 0) ((lyN f j).1 + 1) 1 ∧ lyG f (j + 1) = nst (nst (lyG f j) (lyN f j).1 (if j ≤ 13 then 1 else 0)) ((lyN f j).1 + 1) 0 := ⟨if_pos h, if_pos h, if_pos h⟩
theorem lyR_n {f : Nat → Nat} {j : Nat} (h : ¬ lyS f j = 5) : lyR f (j + 1) = nst (lyR f j) (lyN f j).1 (f j) ∧ lyF f (j + 1) = nst (lyF f j) (lyN f j).1 0 ∧ lyG f (j + 1) = nst (lyG f j) (lyN f j).1 (if j ≤ 13 then 1 else 0) := ⟨if_neg h, if_neg h, if_neg h⟩
theorem nst_a {X : Nat → Nat} {n a b : Nat} : nst (nst X n a) (n + 1) b n = a := by rw [nst_n (by omega), nst_s]
theorem lyN_b {f : Nat → Nat} (hf : ∀ i, f i < 2) : ∀ j, (lyN f j).2.1 ≤ 4 ∧ (lyN f j).2.2 < 2 ∧ j ≤ (lyN f j).1 ∧ 4 * ((lyN f j).1 - j) + (lyN f j).2.1 ≤ j + 1 ∧ (1 ≤ j → 1 ≤ (lyN f j).2.1) := by
  intro j
  induction j with
  | zero => exact ⟨by show 0 ≤ 4; omega, by show 1 < 2; omega, by show 0 ≤ 0; omega, by show 4 * (0 - 0) + 0 ≤ 0 + 1; omega, fun h => by omega⟩
  | succ j ih =>
    obtain ⟨i1, i2, i3, i4, i5⟩ := ih
    have hj := hf j
    have hs : lyS f j ≤ (lyN f j).2.1 + 1 ∧ 1 ≤ lyS f j := by unfold lyS; split <;> omega
    by_cases c : lyS f j = 5
    · rw [lyN_5 c]
      refine ⟨by show 1 ≤ 4; omega, by show 1 - f j < 2; omega, by show j + 1 ≤ (lyN f j).1 + 2; omega, by show 4 * ((lyN f j).1 + 2 - (j + 1)) + 1 ≤ j + 1 + 1; omega, fun _ => by show 1 ≤ 1; omega⟩
    · rw [lyN_n c]
      refine ⟨by show lyS f j ≤ 4; omega, hj, by show j + 1 ≤ (lyN f j).1 + 1; omega, by show 4 * ((lyN f j).1 + 1 - (j + 1)) + lyS f j ≤ j + 1 + 1; omega, fun _ => hs.2⟩
theorem lyN_up {f : Nat → Nat} (j : Nat) : (lyN f j).1 < (lyN f (j + 1)).1 := by
  by_cases c : lyS f j = 5
  · rw [lyN_5 c]; show (lyN f j).1 < (lyN f j).1 + 2; omega
  · rw [lyN_n c]; show (lyN f j).1 < (lyN f j).1 + 1; omega
theorem lyN_le {f : Nat → Nat} (j m : Nat) : (lyN f j).1 + m ≤ (lyN f (j + m)).1 := by
  induction m with
  | zero => exact Nat.le_refl _
  | succ m ih =>
    have := lyN_up (f := f) (j + m)
    show (lyN f j).1 + (m + 1) ≤ (lyN f (j + m + 1)).1
    omega
/-- what was written stays -/
theorem ly_st {f : Nat → Nat} (j m i : Nat) (hi : i < (lyN f j).1) : lyR f (j + m) i = lyR f j i ∧ lyF f (j + m) i = lyF f j i ∧ lyG f (j + m) i = lyG f j i := by
  induction m with
  | zero => exact ⟨rfl, rfl, rfl⟩
  | succ m ih =>
    have := lyN_le (f := f) j m
    show lyR f (j + m + 1) i = _ ∧ lyF f (j + m + 1) i = _ ∧ lyG f (j + m + 1) i = _
    rw [← ih.1, ← ih.2.1, ← ih.2.2]
    by_cases c : lyS f (j + m) = 5
    · obtain ⟨r1, r2, r3⟩ := lyR_5 c
      rw [r1, r2, r3, nst_n (by omega), nst_n (by omega), nst_n (by omega), nst_n (by omega), nst_n (by omega), nst_n (by omega)]
      exact ⟨rfl, rfl, rfl⟩
    · obtain ⟨r1, r2, r3⟩ := lyR_n c
      rw [r1, r2, r3, nst_n (by omega), nst_n (by omega), nst_n (by omega)]
      exact ⟨rfl, rfl, rfl⟩
theorem ly_b {f : Nat → Nat} (hf : ∀ i, f i < 2) : ∀ j i, i < (lyN f j).1 → lyR f j i < 2 ∧ lyF f j i < 2 ∧ lyG f j i < 2 ∧ (lyG f j i = 1 ↔ (lyF f j i = 0 ∧ i < (lyN f 13).1 + 1)) := by
  intro j
  induction j with
  | zero => intro i hi; exact absurd hi (by show ¬ i < 0; omega)
  | succ j ih =>
    intro i hi
    by_cases c0 : i < (lyN f j).1
    · obtain ⟨s1, s2, s3⟩ := ly_st (f := f) j 1 i c0
      rw [s1, s2, s3]
      exact ih i c0
    · have hj := hf j
      have key : ∀ b, b < 2 → ((if j ≤ 13 then 1 else 0 : Nat) = 1 ↔ ((0 : Nat) = 0 ∧ (lyN f j).1 < (lyN f 13).1 + 1)) := fun b _ => by
        by_cases c : j ≤ 13
        · rw [if_pos c]
          have := lyN_le (f := f) j (13 - j)
          rw [show j + (13 - j) = 13 by omega] at this
          omega
        · rw [if_neg c]
          have := lyN_le (f := f) 13 (j - 13)
          rw [show 13 + (j - 13) = j by omega] at this
          omega
      have lt : (if j ≤ 13 then 1 else 0 : Nat) < 2 := by split <;> omega
      by_cases c : lyS f j = 5
      · obtain ⟨r1, r2, r3⟩ := lyR_5 c
        rw [r1, r2, r3]
        rw [lyN_5 c] at hi
        have hi' : i < (lyN f j).1 + 2 := hi
        by_cases d : i = (lyN f j).1
        · rw [d, nst_a, nst_a, nst_a]
          exact ⟨hj, by omega, lt, key 0 (by omega)⟩
        · have : i = (lyN f j).1 + 1 := by omega
          rw [this, nst_s, nst_s, nst_s]
          exact ⟨by omega, by omega, by omega, by omega⟩
      · obtain ⟨r1, r2, r3⟩ := lyR_n c
        rw [lyN_n c] at hi
        have hi' : i < (lyN f j).1 + 1 := hi
        have : i = (lyN f j).1 := by omega
        rw [r1, r2, r3, this, nst_s, nst_s, nst_s]
        exact ⟨hj, by omega, lt, key 0 (by omega)⟩
def wN (f : Nat → Nat) : Nat := (lyN f 98).1
def wR (f : Nat → Nat) (i : Nat) : Nat := if i < wN f then lyR f 98 i else 1
theorem wN_b {f : Nat → Nat} (hf : ∀ i, f i < 2) : 98 ≤ wN f ∧ wN f ≤ 122 := by
  obtain ⟨i1, i2, i3, i4, i5⟩ := lyN_b hf 98
  have := i5 (by omega)
  unfold wN
  omega
theorem wR_lt {f : Nat → Nat} (hf : ∀ i, f i < 2) (i : Nat) : wR f i < 2 := by
  unfold wR
  split
  · exact (ly_b hf 98 i (by assumption)).1
  · omega
