/-! the ear: what its numbers say of the plain bits -/
def num (p : Nat → Nat) (a : Nat) : Nat → Nat
  | 0 => 0
  | n + 1 => 2 * num p a n + p (a + n)
def crcF (top sh v0 : Nat) (s : Nat → Nat) : Nat → Nat
  | 0 => v0
  | n + 1 => crcS top sh (crcF top sh v0 s n) (s n)
theorem num_c {p q : Nat → Nat} {a : Nat} : ∀ n, (∀ i, a ≤ i → i < a + n → q i = p i) → num q a n = num p a n := by
  intro n
  induction n with
  | zero => intro _; rfl
  | succ n ih =>
    intro h
    unfold num
    rw [ih (fun i h1 h2 => h i h1 (by omega)), h (a + n) (by omega) (by omega)]
theorem crcF_c {top sh v0 : Nat} {p q : Nat → Nat} : ∀ n, (∀ i, i < n → q i = p i) → crcF top sh v0 q n = crcF top sh v0 p n := by
  intro n
  induction n with
  | zero => intro _; rfl
  | succ n ih =>
    intro h
    unfold crcF
    rw [ih (fun i h1 => h i (by omega)), h n (by omega)]
theorem num_lt {p : Nat → Nat} {a : Nat} : ∀ n, (∀ i, a ≤ i → i < a + n → p i < 2) → num p a n < 2 ^ n := by
  intro n
  induction n with
  | zero =>
    intro _
    show 0 < 2 ^ 0
    decide
  | succ n ih =>
    intro h
    unfold num
    have h1 := ih (fun i u1 u2 => h i u1 (by omega))
    have h2 := h (a + n) (by omega) (by omega)
    rw [Nat.pow_succ]
    omega
def atH (h : Nat → Nat) : Nat := if h 12 = 1 then 33 else 14
def caH (h : Nat → Nat) : Nat := atH h + 1 + 3 * h 13 + (if h 12 = 1 ∧ h 13 = 0 then 1 else 0)
def jH (h : Nat → Nat) : Nat := if h 12 = 1 then min (h 5) 32 - 14 else 0
def PI (p h : Nat → Nat) : Prop :=
  (∀ i, i < h 5 → p i < 2) ∧ 1 ≤ h 5 ∧
  h 12 = (if 14 ≤ h 5 then p 13 else 0) ∧
  h 13 = (if atH h < h 5 then p (atH h) else 0) ∧
  h 15 = (if atH h < h 5 then caH h else 100000) ∧
  h 14 = (if atH h < h 5 then num p (caH h) (min (h 5) (caH h + 4) - caH h) else 0) ∧
  h 11 = (if h 12 = 1 ∧ 33 ≤ h 5 then p 32 else if 13 ≤ h 5 then p 12 else 0) ∧
  h 16 = (if atH h < h 5 ∧ caH h + 4 ≤ h 5 then hOc h else 0) ∧
  h 17 = (if atH h < h 5 ∧ caH h + 4 ≤ h 5 then caH h + 4 + 8 * h 16 else 100000) ∧
  h 10 = num p 1 (min (h 5) 12 - 1) * 2 ^ jH h + num p 14 (jH h) ∧
  h 18 = num p (h 17) (h 5 - h 17) ∧
  h 7 = crcF (2 ^ 14) 17817 0 p (min (h 5) (h 17))
theorem atH_b (h : Nat → Nat) : 14 ≤ atH h ∧ atH h ≤ 33 := by
  unfold atH
  split <;> omega
theorem PI_c {p q h : Nat → Nat} (hq : ∀ i, i < h 5 → q i = p i) (hI : PI p h) : PI q h := by
  obtain ⟨i1, i2, i3, i4, i5, i6, i7, i8, i9, i10, i11, i12⟩ := hI
  have ab := atH_b h
  refine ⟨fun i u => by rw [hq i u]; exact i1 i u, i2, ?_, ?_, i5, ?_, ?_, i8, i9, ?_, ?_, ?_⟩
  · rw [i3]
    split
    · rw [hq 13 (by omega)]
    · rfl
  · rw [i4]
    split
    · rw [hq _ (by omega)]
    · rfl
  · rw [i6]
    split
    · exact (num_c _ (fun i u1 u2 => hq i (by omega))).symm
    · rfl
  · rw [i7]
    split
    · rw [hq 32 (by omega)]
    · split
      · rw [hq 12 (by omega)]
      · rfl
  · rw [i10, num_c (q := q) (p := p) _ (fun i u1 u2 => hq i (by omega))]
    have : num q 14 (jH h) = num p 14 (jH h) := by
      apply num_c
      intro i u1 u2
      apply hq
      unfold jH at u2
      split at u2 <;> omega
    rw [this]
  · rw [i11]
    exact (num_c _ (fun i u1 u2 => hq i (by omega))).symm
  · rw [i12]
    exact (crcF_c _ (fun i u => hq i (by omega))).symm
theorem PI_0 {p : Nat → Nat} (h0 : p 0 = 0) : PI p h00 := by
  have e5 : h00 5 = 1 := rfl
  have e12 : h00 12 = 0 := rfl
  have ea : atH h00 = 14 := rfl
  refine ⟨fun i u => ?_, by decide, rfl, rfl, rfl, rfl, rfl, rfl, rfl, ?_, ?_, ?_⟩
  · rw [e5] at u
    have : i = 0 := by omega
    rw [this, h0]
    decide
  · show 0 = _
    rfl
  · show 0 = num p 100000 (1 - 100000)
    rfl
  · show c15 0 0 = crcS (2 ^ 14) 17817 0 (p 0)
    rw [h0]
    rfl
