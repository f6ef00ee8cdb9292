/-! CORES: which task is chosen, on both sides -/
/-- task i comes before task b -/
def befB (A : mwM) (i b : Nat) : Bool := if A 7 i = A 7 b then (decide (A 12 b ≠ 2) && decide (A 15 i < A 15 b)) else decide (A 7 b < A 7 i)
/-- the best of the first j tasks, from one that runs already -/
def bsN (A : mwM) (c : Nat) (w : Option Nat) : Nat → Option Nat
  | 0 => w
  | j + 1 => match bsN A c w j with
    | none => if A 8 j = sI c ∧ A 12 j = 1 then some j else none
    | some b => if A 8 j = sI c ∧ A 12 j = 1 ∧ befB A j b = true then some j else some b
theorem bsN_S {A : mwM} {c : Nat} {w : Option Nat} {j : Nat} : bsN A c w (j + 1) = (match bsN A c w j with
    | none => if A 8 j = sI c ∧ A 12 j = 1 then some j else none
    | some b => if A 8 j = sI c ∧ A 12 j = 1 ∧ befB A j b = true then some j else some b) := rfl
def oI : Option Nat → Int32
  | none => -1
  | some b => sI b
def oM : Option Nat → Int32
  | none => 0
  | some b => sI (b + 1)
theorem bsN_lt {A : mwM} {c : Nat} {w : Option Nat} {T : Nat} (hw : ∀ x, w = some x → x < T) : ∀ j, j ≤ T → ∀ x, bsN A c w j = some x → x < T := by
  intro j
  induction j with
  | zero => intro _ x hx; exact hw x hx
  | succ j ih =>
    intro hj x hx
    have hj' := ih (by omega)
    unfold bsN at hx
    split at hx
    · split at hx
      · injection hx with hx; omega
      · cases hx
    · split at hx
      · injection hx with hx; omega
      · rename_i b hb _
        injection hx with hx
        subst hx
        exact hj' _ hb
theorem c_isBefore {fu : Nat} {A : mwM} {L : mwL} {i b : Nat} (hi : i < 12) (hb : b < 12) : DX4_isBefore fu (sI i) (sI b) A L = some ((if befB A i b = true then 1 else 0), A, L) := by
  unfold DX4_isBefore fX4_isBefore_b43 fX4_isBefore_b81 fX4_isBefore_b82
  simp (disch := omega) only [mck_s, sI_nn]
  unfold befB
  by_cases h1 : A 7 i = A 7 b
  · rw [if_pos h1, if_pos h1]
    by_cases h2 : A 12 b = 2
    · rw [if_pos h2]
      simp [h2]
      rfl
    · rw [if_neg h2]
      by_cases h3 : A 15 b ≤ A 15 i
      · rw [if_pos h3]
        have : ¬ A 15 i < A 15 b := Int32.not_lt.mpr h3
        simp [this]
        rfl
      · rw [if_neg h3]
        have : A 15 i < A 15 b := Int32.not_le.mp h3
        simp [this, h2]
        rfl
  · rw [if_neg h1, if_neg h1]
    by_cases h3 : A 7 i ≤ A 7 b
    · rw [if_pos h3]
      have : ¬ A 7 b < A 7 i := Int32.not_lt.mpr h3
      simp [this]
      rfl
    · rw [if_neg h3]
      have : A 7 b < A 7 i := Int32.not_le.mp h3
      simp [this]
      rfl
/-- what choosing makes of the class's memory -/
def chA (A : mwM) (c : Nat) (w b : Option Nat) : mwM :=
  let A1 := match w with
    | none => A
    | some x => mset A 12 x 1
  let A2 := match b with
    | none => A1
    | some x => mset A1 12 x 2
  mset A2 18 c (oI b)
theorem oI_neg {w : Option Nat} {T : Nat} (hT : T ≤ 12) (hw : ∀ x, w = some x → x < T) : (oI w < 0) ↔ w = none := by
  cases w with
  | none => exact ⟨fun _ => rfl, fun _ => by decide⟩
  | some x =>
    have := hw x rfl
    constructor
    · intro h
      exact absurd h (by show ¬ sI x < 0; rw [sI_ltl (by omega) (by decide)]; exact Nat.not_lt_zero _)
    · intro h; cases h
theorem c_choose {fu : Nat} {A : mwM} {L : mwL} {c T : Nat} {w : Option Nat} (hf : 13 ≤ fu) (hc : c < 6) (hT : T ≤ 12) (h3 : A 5 3 = sI T) (hw : A 18 c = oI w) (hwT : ∀ x, w = some x → x < T) : DX4_choose fu (sI c) A L = some (chA A c w (bsN A c w T), L) := by
  have hlt := bsN_lt (A := A) (c := c) hwT
  unfold DX4_choose
  rw [mck_s (by omega) (by omega), sI_nn (by omega), hw]
  simp only [mlet]
  have h := wq_for (body := fun r s => fX4_choose_i9 fu (sI c) r s.1 s.2.1 s.2.2.1 s.2.2.2) (Q := fun q => q = (chA A c w (bsN A c w T), L)) (fun j (_ : Unit) => (oI (bsN A c w j), sI j, A, L)) (fun _ _ => True) T ?_ ?_ T 0 () fu (by omega) (by omega) trivial
  · obtain ⟨q, e, rfl⟩ := h
    exact e
  · intro j _ r hj _ ih
    show wq (fX4_choose_i9 fu (sI c) r (oI (bsN A c w j)) (sI j) A L) _
    unfold fX4_choose_i9 fX4_choose_b54 fX4_choose_b56
    have hn := ih () trivial
    rw [h3, if_neg (by rw [sI_le (by omega) (by omega)]; omega), mck_s (by omega) (by omega), sI_nn (by omega)]
    simp only [mlet]
    rw [sI_1]
    have hb := hlt j (by omega)
    rw [bsN_S] at hn
    by_cases h8 : A 8 j = sI c
    · rw [if_pos h8, mck_s (by omega) (by omega)]
      by_cases h12 : A 12 j = 1
      · rw [if_pos h12]
        cases hbj : bsN A c w j with
        | none =>
          rw [hbj] at hn
          simp only [h8, h12, and_self, if_true] at hn
          rw [if_pos (by decide)]
          exact hn
        | some b =>
          rw [hbj] at hn hb
          have hbT := hb b rfl
          rw [if_neg (by show ¬ sI b < 0; rw [sI_ltl (by omega) (by decide)]; exact Nat.not_lt_zero _)]
          show wq (mb3 (DX4_isBefore fu (sI j) (sI b) A L) _) _
          rw [c_isBefore (by omega) (by omega), mb3_s]
          simp only [h8, h12, true_and] at hn
          by_cases hbe : befB A j b = true
          · rw [if_pos hbe] at hn ⊢
            rw [if_neg (by decide)]
            exact hn
          · rw [if_neg hbe] at hn ⊢
            rw [if_pos rfl]
            exact hn
      · rw [if_neg h12]
        cases hbj : bsN A c w j with
        | none =>
          rw [hbj] at hn
          simp only [h12, and_false, if_false] at hn
          exact hn
        | some b =>
          rw [hbj] at hn
          simp only [h12, and_false, false_and, if_false] at hn
          exact hn
    · rw [if_neg h8]
      cases hbj : bsN A c w j with
      | none =>
        rw [hbj] at hn
        simp only [h8, false_and, if_false] at hn
        exact hn
      | some b =>
        rw [hbj] at hn
        simp only [h8, false_and, if_false] at hn
        exact hn
  · intro _ r _
    show wq (fX4_choose_i9 fu (sI c) r (oI (bsN A c w T)) (sI T) A L) _
    unfold fX4_choose_i9 fX4_choose_b85 fX4_choose_b98
    rw [h3, if_pos (by rw [sI_le (by omega) (by omega)]; omega), mck_s (by omega) (by omega), sI_nn (by omega), hw]
    have hb := hlt T (Nat.le_refl _)
    simp only [mlet]
    refine wq_eq (b := (chA A c w (bsN A c w T), L)) ?_ rfl
    unfold chA
    cases w with
    | none =>
      rw [if_pos (by decide)]
      cases hbT : bsN A c none T with
      | none =>
        rw [if_pos (by decide), mck_s (by omega) (by omega)]
      | some b =>
        have := hb b hbT
        rw [if_neg (by show ¬ sI b < 0; rw [sI_ltl (by omega) (by decide)]; exact Nat.not_lt_zero _)]
        show mck (sI b) 12 (mck (sI c) 6 (some (mset (mset A 12 (sI b).toNatClampNeg 2) 18 c (oI (some b)), L))) = _
        rw [mck_s (by omega) (by omega), mck_s (by omega) (by omega), sI_nn (by omega)]
    | some x =>
      have hx := hwT x rfl
      rw [if_neg (by show ¬ sI x < 0; rw [sI_ltl (by omega) (by decide)]; exact Nat.not_lt_zero _), mck_s (by omega) (by omega)]
      show mck (sI x) 12 _ = _
      rw [mck_s (by omega) (by omega)]
      show (if oI (bsN A c (some x) T) < 0 then mck (sI c) 6 (some (mset (mset A 12 (sI x).toNatClampNeg 1) 18 c (oI (bsN A c (some x) T)), L)) else mck (oI (bsN A c (some x) T)) 12 (mck (sI c) 6 (some (mset (mset (mset A 12 (sI x).toNatClampNeg 1) 12 (oI (bsN A c (some x) T)).toNatClampNeg 2) 18 c (oI (bsN A c (some x) T)), L)))) = _
      rw [sI_nn (by omega)]
      cases hbT : bsN A c (some x) T with
      | none =>
        rw [if_pos (by decide), mck_s (by omega) (by omega)]
      | some b =>
        have := hb b hbT
        rw [if_neg (by show ¬ sI b < 0; rw [sI_ltl (by omega) (by decide)]; exact Nat.not_lt_zero _)]
        show mck (sI b) 12 (mck (sI c) 6 (some (mset (mset (mset A 12 x 1) 12 (sI b).toNatClampNeg 2) 18 c (oI (some b)), L))) = _
        rw [mck_s (by omega) (by omega), mck_s (by omega) (by omega), sI_nn (by omega)]
